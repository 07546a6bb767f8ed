theorem goodIn_r {big : List Cond} (ws : List Cond) (ps : List Nat) (hp : ws = ps.filterMap (fun i => big[i]?)) (h : ws.all goodWord = true) : GoodIn big ws := by
  intro w hw
  have h1 := List.all_eq_true.mp h w hw
  rw [hp] at hw
  obtain ⟨i, -, hi⟩ := List.mem_filterMap.mp hw
  have hm : w ∈ big := by first | exact List.mem_of_getElem? hi | exact List.getElem?_mem hi
  exact ⟨hm, good_of_word h1⟩
theorem goodIn_app {big a b : List Cond} (ha : GoodIn big a) (hb : GoodIn big b) : GoodIn big (a ++ b) := fun w h => (List.mem_append.mp h).elim (ha w) (hb w)
theorem goodIn_ca {big a b : List Cond} {c : Cond} (ha : GoodIn big (c :: a)) (hb : GoodIn big b) : GoodIn big (c :: (a ++ b)) := fun w h => (List.mem_cons.mp h).elim (fun e => ha w (List.mem_cons.mpr (Or.inl e))) (fun h => (List.mem_append.mp h).elim (fun h => ha w (List.mem_cons.mpr (Or.inr h))) (hb w))
theorem goodIn_sub {big ws : List Cond} (hm : ∀ w ∈ ws, w ∈ big) (h : ws.all goodWord = true) : GoodIn big ws := fun w hw => ⟨hm w hw, good_of_word (List.all_eq_true.mp h w hw)⟩

def RX0 : String := "PointAnswers$Bundle"
def TX0 : u_T := fun k => match k with
  | 0 => ("PointAnswers$Bundle", "rows", "[LPointAnswers$Point;", true)
  | 1 => ("PointAnswers$Bundle", "size", "I", false)
  | 2 => ("PointAnswers$Bundle", "day", "I", false)
  | 3 => ("PointAnswers$Bundle", "overruled", "I", false)
  | 4 => ("PointAnswers$Bundle", "lapse", "I", false)
  | _ => ("PointAnswers$Bundle", "allowedPages", "I", false)
def tyX0 : Nat → FieldType := fun k => match k with
  | 0 => .array (.object "PointAnswers$Point")
  | 1 => .int
  | 2 => .int
  | 3 => .int
  | 4 => .int
  | _ => .int
abbrev wsX00 : List Cond := u_ws RX0 TX0 6
theorem nmX0 : ∀ a, a < 6 → ∀ b, b < 6 → a ≠ b → (TX0 a).2.1 ≠ (TX0 b).2.1 := by decide +kernel
theorem tyX0_ok : ∀ k, k < 6 → parseFieldDescriptor (TX0 k).2.2.1 = some (tyX0 k) := by decide +kernel
abbrev cX0_init : ByteArray := prog_2_method_1_code
def yX0_init : MethodName := ⟨RX0, "<init>", "()V"⟩
abbrev cX0_become : ByteArray := prog_2_method_2_code
def yX0_become : MethodName := ⟨RX0, "become", "(LPointAnswers$Bundle;)V"⟩
abbrev cX0_find : ByteArray := prog_2_method_3_code
def yX0_find : MethodName := ⟨RX0, "find", "(I)LPointAnswers$Point;"⟩
abbrev cX0_freeRow : ByteArray := prog_2_method_4_code
def yX0_freeRow : MethodName := ⟨RX0, "freeRow", "()LPointAnswers$Point;"⟩
abbrev cX0_adjust : ByteArray := prog_2_method_5_code
def yX0_adjust : MethodName := ⟨RX0, "adjust", "(II)I"⟩
abbrev cX0_fileClaim : ByteArray := prog_2_method_6_code
def yX0_fileClaim : MethodName := ⟨RX0, "fileClaim", "(III)I"⟩
abbrev cX0_fileAnswer : ByteArray := prog_2_method_7_code
def yX0_fileAnswer : MethodName := ⟨RX0, "fileAnswer", "(III)I"⟩
abbrev cX0_canBeFiled : ByteArray := prog_2_method_8_code
def yX0_canBeFiled : MethodName := ⟨RX0, "canBeFiled", "(II)Z"⟩
abbrev cX0_file : ByteArray := prog_2_method_9_code
def yX0_file : MethodName := ⟨RX0, "file", "(IIII)I"⟩
abbrev cX0_takeBack : ByteArray := prog_2_method_10_code
def yX0_takeBack : MethodName := ⟨RX0, "takeBack", "(I)I"⟩
abbrev cX0_prolong : ByteArray := prog_2_method_11_code
def yX0_prolong : MethodName := ⟨RX0, "prolong", "(I)I"⟩
abbrev cX0_turnCase : ByteArray := prog_2_method_12_code
def yX0_turnCase : MethodName := ⟨RX0, "turnCase", "(I)I"⟩
abbrev cX0_moveOn : ByteArray := prog_2_method_13_code
def yX0_moveOn : MethodName := ⟨RX0, "moveOn", "(I)I"⟩
abbrev cX0_all : ByteArray := prog_2_method_14_code
def yX0_all : MethodName := ⟨RX0, "all", "()I"⟩
abbrev cX0_claims : ByteArray := prog_2_method_15_code
def yX0_claims : MethodName := ⟨RX0, "claims", "()I"⟩
abbrev cX0_answersTo : ByteArray := prog_2_method_16_code
def yX0_answersTo : MethodName := ⟨RX0, "answersTo", "(I)I"⟩
abbrev cX0_withoutAnswers : ByteArray := prog_2_method_17_code
def yX0_withoutAnswers : MethodName := ⟨RX0, "withoutAnswers", "()I"⟩
abbrev cX0_targetOf : ByteArray := prog_2_method_18_code
def yX0_targetOf : MethodName := ⟨RX0, "targetOf", "(I)I"⟩
abbrev cX0_ofSide : ByteArray := prog_2_method_19_code
def yX0_ofSide : MethodName := ⟨RX0, "ofSide", "(I)I"⟩
abbrev cX0_withdrawn : ByteArray := prog_2_method_20_code
def yX0_withdrawn : MethodName := ⟨RX0, "withdrawn", "()I"⟩
abbrev cX0_struck : ByteArray := prog_2_method_21_code
def yX0_struck : MethodName := ⟨RX0, "struck", "()I"⟩
abbrev cX0_lapsedOn : ByteArray := prog_2_method_22_code
def yX0_lapsedOn : MethodName := ⟨RX0, "lapsedOn", "(I)I"⟩
abbrev cX0_baseless : ByteArray := prog_2_method_23_code
def yX0_baseless : MethodName := ⟨RX0, "baseless", "()I"⟩
abbrev cX0_out : ByteArray := prog_2_method_24_code
def yX0_out : MethodName := ⟨RX0, "out", "()I"⟩
abbrev cX0_standing : ByteArray := prog_2_method_25_code
def yX0_standing : MethodName := ⟨RX0, "standing", "()I"⟩
abbrev cX0_answered : ByteArray := prog_2_method_26_code
def yX0_answered : MethodName := ⟨RX0, "answered", "()I"⟩
abbrev cX0_standingIf : ByteArray := prog_2_method_27_code
def yX0_standingIf : MethodName := ⟨RX0, "standingIf", "(II)I"⟩
abbrev cX0_reasonAgainst : ByteArray := prog_2_method_28_code
def yX0_reasonAgainst : MethodName := ⟨RX0, "reasonAgainst", "(I)I"⟩
abbrev cX0_depthOf : ByteArray := prog_2_method_29_code
def yX0_depthOf : MethodName := ⟨RX0, "depthOf", "(I)I"⟩
abbrev cX0_daysLeft : ByteArray := prog_2_method_30_code
def yX0_daysLeft : MethodName := ⟨RX0, "daysLeft", "(LPointAnswers$Point;)I"⟩
abbrev cX0_pagesOf : ByteArray := prog_2_method_31_code
def yX0_pagesOf : MethodName := ⟨RX0, "pagesOf", "(II)I"⟩
def RX1 : String := "PointAnswers$Costs"
def TX1 : u_T := fun k => match k with
  | 0 => ("PointAnswers$Costs", "fall", "[I", true)
  | _ => ("PointAnswers$Costs", "stand", "[I", true)
def tyX1 : Nat → FieldType := fun k => match k with
  | 0 => .array .int
  | _ => .array .int
abbrev wsX10 : List Cond := u_ws RX1 TX1 2
theorem nmX1 : ∀ a, a < 2 → ∀ b, b < 2 → a ≠ b → (TX1 a).2.1 ≠ (TX1 b).2.1 := by decide +kernel
theorem tyX1_ok : ∀ k, k < 2 → parseFieldDescriptor (TX1 k).2.2.1 = some (tyX1 k) := by decide +kernel
abbrev cX1_init : ByteArray := prog_3_method_1_code
def yX1_init : MethodName := ⟨RX1, "<init>", "()V"⟩
abbrev cX1_weigh : ByteArray := prog_3_method_2_code
def yX1_weigh : MethodName := ⟨RX1, "weigh", "(LPointAnswers$Bundle;)V"⟩
abbrev cX1_addToTarget : ByteArray := prog_3_method_3_code
def yX1_addToTarget : MethodName := ⟨RX1, "addToTarget", "(III)V"⟩
abbrev cX1_answersToFall : ByteArray := prog_3_method_4_code
def yX1_answersToFall : MethodName := ⟨RX1, "answersToFall", "(I)I"⟩
abbrev cX1_answersToStand : ByteArray := prog_3_method_5_code
def yX1_answersToStand : MethodName := ⟨RX1, "answersToStand", "(I)I"⟩
abbrev cX1_reachable : ByteArray := prog_3_method_6_code
def yX1_reachable : MethodName := ⟨RX1, "reachable", "(I)I"⟩
def RX2 : String := "PointAnswers$History"
def TX2 : u_T := fun k => match k with
  | 0 => ("PointAnswers$History", "rows", "[LPointAnswers$Bundle;", true)
  | _ => ("PointAnswers$History", "kept", "I", false)
def tyX2 : Nat → FieldType := fun k => match k with
  | 0 => .array (.object "PointAnswers$Bundle")
  | _ => .int
abbrev wsX20 : List Cond := u_ws RX2 TX2 2
theorem nmX2 : ∀ a, a < 2 → ∀ b, b < 2 → a ≠ b → (TX2 a).2.1 ≠ (TX2 b).2.1 := by decide +kernel
theorem tyX2_ok : ∀ k, k < 2 → parseFieldDescriptor (TX2 k).2.2.1 = some (tyX2 k) := by decide +kernel
abbrev cX2_init : ByteArray := prog_4_method_1_code
def yX2_init : MethodName := ⟨RX2, "<init>", "()V"⟩
abbrev cX2_rowAt : ByteArray := prog_4_method_2_code
def yX2_rowAt : MethodName := ⟨RX2, "rowAt", "(I)LPointAnswers$Bundle;"⟩
abbrev cX2_prepare : ByteArray := prog_4_method_3_code
def yX2_prepare : MethodName := ⟨RX2, "prepare", "(LPointAnswers$Bundle;)V"⟩
abbrev cX2_settle : ByteArray := prog_4_method_4_code
def yX2_settle : MethodName := ⟨RX2, "settle", "(I)I"⟩
abbrev cX2_dropOldest : ByteArray := prog_4_method_5_code
def yX2_dropOldest : MethodName := ⟨RX2, "dropOldest", "()V"⟩
abbrev cX2_bringBack : ByteArray := prog_4_method_6_code
def yX2_bringBack : MethodName := ⟨RX2, "bringBack", "(LPointAnswers$Bundle;)I"⟩
def RX3 : String := "PointAnswers$Pad"
def TX3 : u_T := fun k => match k with
  | 0 => ("PointAnswers$Pad", "signs", "[C", true)
  | _ => ("PointAnswers$Pad", "length", "I", false)
def tyX3 : Nat → FieldType := fun k => match k with
  | 0 => .array .char
  | _ => .int
abbrev wsX30 : List Cond := u_ws RX3 TX3 2
theorem nmX3 : ∀ a, a < 2 → ∀ b, b < 2 → a ≠ b → (TX3 a).2.1 ≠ (TX3 b).2.1 := by decide +kernel
theorem tyX3_ok : ∀ k, k < 2 → parseFieldDescriptor (TX3 k).2.2.1 = some (tyX3 k) := by decide +kernel
abbrev cX3_init : ByteArray := prog_5_method_1_code
def yX3_init : MethodName := ⟨RX3, "<init>", "()V"⟩
abbrev cX3_empty : ByteArray := prog_5_method_2_code
def yX3_empty : MethodName := ⟨RX3, "empty", "()I"⟩
abbrev cX3_signsIn : ByteArray := prog_5_method_3_code
def yX3_signsIn : MethodName := ⟨RX3, "signsIn", "(J)I"⟩
abbrev cX3_signOf : ByteArray := prog_5_method_4_code
def yX3_signOf : MethodName := ⟨RX3, "signOf", "(JI)C"⟩
abbrev cX3_append : ByteArray := prog_5_method_5_code
def yX3_append : MethodName := ⟨RX3, "append", "(C)V"⟩
abbrev cX3_signAt : ByteArray := prog_5_method_6_code
def yX3_signAt : MethodName := ⟨RX3, "signAt", "(I)C"⟩
def RX4 : String := "PointAnswers$Point"
def TX4 : u_T := fun k => match k with
  | 0 => ("PointAnswers$Point", "side", "I", false)
  | 1 => ("PointAnswers$Point", "pages", "I", false)
  | 2 => ("PointAnswers$Point", "cases", "I", false)
  | 3 => ("PointAnswers$Point", "target", "I", false)
  | 4 => ("PointAnswers$Point", "filed", "I", false)
  | 5 => ("PointAnswers$Point", "lastsFrom", "I", false)
  | _ => ("PointAnswers$Point", "withdrawn", "Z", false)
def tyX4 : Nat → FieldType := fun k => match k with
  | 0 => .int
  | 1 => .int
  | 2 => .int
  | 3 => .int
  | 4 => .int
  | 5 => .int
  | _ => .boolean
abbrev wsX40 : List Cond := u_ws RX4 TX4 7
theorem nmX4 : ∀ a, a < 7 → ∀ b, b < 7 → a ≠ b → (TX4 a).2.1 ≠ (TX4 b).2.1 := by decide +kernel
theorem tyX4_ok : ∀ k, k < 7 → parseFieldDescriptor (TX4 k).2.2.1 = some (tyX4 k) := by decide +kernel
abbrev cX4_init : ByteArray := prog_6_method_1_code
def yX4_init : MethodName := ⟨RX4, "<init>", "()V"⟩
abbrev cX4_become : ByteArray := prog_6_method_2_code
def yX4_become : MethodName := ⟨RX4, "become", "(LPointAnswers$Point;)V"⟩
def RX5 : String := "PointAnswers$Reader"
def TX5 : u_T := fun k => match k with
  | 0 => ("PointAnswers$Reader", "at", "I", false)
  | 1 => ("PointAnswers$Reader", "digit", "I", false)
  | 2 => ("PointAnswers$Reader", "kind", "C", false)
  | 3 => ("PointAnswers$Reader", "number", "I", false)
  | 4 => ("PointAnswers$Reader", "pages", "I", false)
  | _ => ("PointAnswers$Reader", "cases", "I", false)
def tyX5 : Nat → FieldType := fun k => match k with
  | 0 => .int
  | 1 => .int
  | 2 => .char
  | 3 => .int
  | 4 => .int
  | _ => .int
abbrev wsX50 : List Cond := u_ws RX5 TX5 6
theorem nmX5 : ∀ a, a < 6 → ∀ b, b < 6 → a ≠ b → (TX5 a).2.1 ≠ (TX5 b).2.1 := by decide +kernel
theorem tyX5_ok : ∀ k, k < 6 → parseFieldDescriptor (TX5 k).2.2.1 = some (tyX5 k) := by decide +kernel
abbrev cX5_init : ByteArray := prog_7_method_1_code
def yX5_init : MethodName := ⟨RX5, "<init>", "()V"⟩
abbrev cX5_rewind : ByteArray := prog_7_method_2_code
def yX5_rewind : MethodName := ⟨RX5, "rewind", "()V"⟩
abbrev cX5_firstFault : ByteArray := prog_7_method_3_code
def yX5_firstFault : MethodName := ⟨RX5, "firstFault", "(LPointAnswers$Pad;)I"⟩
abbrev cX5_readOrder : ByteArray := prog_7_method_4_code
def yX5_readOrder : MethodName := ⟨RX5, "readOrder", "(LPointAnswers$Pad;)Z"⟩
abbrev cX5_take : ByteArray := prog_7_method_5_code
def yX5_take : MethodName := ⟨RX5, "take", "(LPointAnswers$Pad;C)Z"⟩
abbrev cX5_takeDigit : ByteArray := prog_7_method_6_code
def yX5_takeDigit : MethodName := ⟨RX5, "takeDigit", "(LPointAnswers$Pad;CC)Z"⟩
abbrev cX5_readDigit : ByteArray := prog_7_method_7_code
def yX5_readDigit : MethodName := ⟨RX5, "readDigit", "(LPointAnswers$Pad;CC)Z"⟩
abbrev cX5_readNumber : ByteArray := prog_7_method_8_code
def yX5_readNumber : MethodName := ⟨RX5, "readNumber", "(LPointAnswers$Pad;)Z"⟩
abbrev cX5_readPaper : ByteArray := prog_7_method_9_code
def yX5_readPaper : MethodName := ⟨RX5, "readPaper", "(LPointAnswers$Pad;)Z"⟩
abbrev cX5_readCites : ByteArray := prog_7_method_10_code
def yX5_readCites : MethodName := ⟨RX5, "readCites", "(LPointAnswers$Pad;)Z"⟩
def RX6 : String := "PointAnswers"
def TX6 : u_T := fun k => match k with
  | 0 => ("PointAnswers", "now", "LPointAnswers$Bundle;", true)
  | 1 => ("PointAnswers", "costs", "LPointAnswers$Costs;", true)
  | 2 => ("PointAnswers", "pad", "LPointAnswers$Pad;", true)
  | 3 => ("PointAnswers", "reader", "LPointAnswers$Reader;", true)
  | 4 => ("PointAnswers", "history", "LPointAnswers$History;", true)
  | 5 => ("PointAnswers", "slots", "[LPointAnswers$Bundle;", true)
  | _ => ("PointAnswers", "savedSlots", "I", false)
def tyX6 : Nat → FieldType := fun k => match k with
  | 0 => .object "PointAnswers$Bundle"
  | 1 => .object "PointAnswers$Costs"
  | 2 => .object "PointAnswers$Pad"
  | 3 => .object "PointAnswers$Reader"
  | 4 => .object "PointAnswers$History"
  | 5 => .array (.object "PointAnswers$Bundle")
  | _ => .int
abbrev wsX60 : List Cond := u_ws RX6 TX6 7
theorem nmX6 : ∀ a, a < 7 → ∀ b, b < 7 → a ≠ b → (TX6 a).2.1 ≠ (TX6 b).2.1 := by decide +kernel
theorem tyX6_ok : ∀ k, k < 7 → parseFieldDescriptor (TX6 k).2.2.1 = some (tyX6 k) := by decide +kernel
abbrev cX6_init : ByteArray := prog_1_method_1_code
def yX6_init : MethodName := ⟨RX6, "<init>", "()V"⟩
abbrev cX6_set : ByteArray := prog_1_method_2_code
def yX6_set : MethodName := ⟨RX6, "set", "(II)I"⟩
abbrev cX6_claim : ByteArray := prog_1_method_3_code
def yX6_claim : MethodName := ⟨RX6, "claim", "(III)I"⟩
abbrev cX6_answer : ByteArray := prog_1_method_4_code
def yX6_answer : MethodName := ⟨RX6, "answer", "(III)I"⟩
abbrev cX6_withdraw : ByteArray := prog_1_method_5_code
def yX6_withdraw : MethodName := ⟨RX6, "withdraw", "(I)I"⟩
abbrev cX6_renew : ByteArray := prog_1_method_6_code
def yX6_renew : MethodName := ⟨RX6, "renew", "(I)I"⟩
abbrev cX6_overrule : ByteArray := prog_1_method_7_code
def yX6_overrule : MethodName := ⟨RX6, "overrule", "(I)I"⟩
abbrev cX6_pass : ByteArray := prog_1_method_8_code
def yX6_pass : MethodName := ⟨RX6, "pass", "(I)I"⟩
abbrev cX6_of : ByteArray := prog_1_method_9_code
def yX6_of : MethodName := ⟨RX6, "of", "(II)I"⟩
abbrev cX6_count : ByteArray := prog_1_method_10_code
def yX6_count : MethodName := ⟨RX6, "count", "(I)I"⟩
abbrev cX6_points : ByteArray := prog_1_method_11_code
def yX6_points : MethodName := ⟨RX6, "points", "(I)I"⟩
abbrev cX6_share : ByteArray := prog_1_method_12_code
def yX6_share : MethodName := ⟨RX6, "share", "(I)I"⟩
abbrev cX6_toFall : ByteArray := prog_1_method_13_code
def yX6_toFall : MethodName := ⟨RX6, "toFall", "(I)I"⟩
abbrev cX6_toStand : ByteArray := prog_1_method_14_code
def yX6_toStand : MethodName := ⟨RX6, "toStand", "(I)I"⟩
abbrev cX6_bestAnswer : ByteArray := prog_1_method_15_code
def yX6_bestAnswer : MethodName := ⟨RX6, "bestAnswer", "(I)I"⟩
abbrev cX6_changesIn : ByteArray := prog_1_method_16_code
def yX6_changesIn : MethodName := ⟨RX6, "changesIn", "()I"⟩
abbrev cX6_leastPages : ByteArray := prog_1_method_17_code
def yX6_leastPages : MethodName := ⟨RX6, "leastPages", "()I"⟩
abbrev cX6_put : ByteArray := prog_1_method_18_code
def yX6_put : MethodName := ⟨RX6, "put", "(J)I"⟩
abbrev cX6_wipe : ByteArray := prog_1_method_19_code
def yX6_wipe : MethodName := ⟨RX6, "wipe", "()I"⟩
abbrev cX6_fault : ByteArray := prog_1_method_20_code
def yX6_fault : MethodName := ⟨RX6, "fault", "()I"⟩
abbrev cX6_carryOut : ByteArray := prog_1_method_21_code
def yX6_carryOut : MethodName := ⟨RX6, "carryOut", "()I"⟩
abbrev cX6_undo : ByteArray := prog_1_method_22_code
def yX6_undo : MethodName := ⟨RX6, "undo", "()I"⟩
abbrev cX6_save : ByteArray := prog_1_method_23_code
def yX6_save : MethodName := ⟨RX6, "save", "(I)I"⟩
abbrev cX6_restore : ByteArray := prog_1_method_24_code
def yX6_restore : MethodName := ⟨RX6, "restore", "(I)I"⟩
abbrev cX6_slotRow : ByteArray := prog_1_method_25_code
def yX6_slotRow : MethodName := ⟨RX6, "slotRow", "(I)LPointAnswers$Bundle;"⟩
abbrev cX6_follow : ByteArray := prog_1_method_26_code
def yX6_follow : MethodName := ⟨RX6, "follow", "()I"⟩
abbrev cX6_has : ByteArray := prog_1_method_27_code
def yX6_has : MethodName := ⟨RX6, "has", "(II)Z"⟩
abbrev cX6_lowestOf : ByteArray := prog_1_method_28_code
def yX6_lowestOf : MethodName := ⟨RX6, "lowestOf", "(I)I"⟩
abbrev cX6_floatBits : ByteArray := prog_1_method_29_code
def yX6_floatBits : MethodName := ⟨RX6, "floatBits", "(II)I"⟩
def RX7 : String := "PointAnswersModel"
def TX7 : u_T := fun k => match k with
  | 0 => ("PointAnswersModel", "z", "[I", true)
  | 1 => ("PointAnswersModel", "past", "[I", true)
  | 2 => ("PointAnswersModel", "slots", "[I", true)
  | 3 => ("PointAnswersModel", "isSaved", "[Z", true)
  | 4 => ("PointAnswersModel", "pastMany", "I", false)
  | 5 => ("PointAnswersModel", "pad", "[C", true)
  | 6 => ("PointAnswersModel", "typed", "I", false)
  | 7 => ("PointAnswersModel", "why", "[I", true)
  | 8 => ("PointAnswersModel", "taken", "[I", true)
  | 9 => ("PointAnswersModel", "stands", "[I", true)
  | 10 => ("PointAnswersModel", "falls", "[I", true)
  | 11 => ("PointAnswersModel", "orders", "[I", true)
  | 12 => ("PointAnswersModel", "orderMany", "I", false)
  | 13 => ("PointAnswersModel", "spot", "I", false)
  | _ => ("PointAnswersModel", "wrong", "I", false)
def tyX7 : Nat → FieldType := fun k => match k with
  | 0 => .array .int
  | 1 => .array .int
  | 2 => .array .int
  | 3 => .array .boolean
  | 4 => .int
  | 5 => .array .char
  | 6 => .int
  | 7 => .array .int
  | 8 => .array .int
  | 9 => .array .int
  | 10 => .array .int
  | 11 => .array .int
  | 12 => .int
  | 13 => .int
  | _ => .int
abbrev wsX70 : List Cond := u_ws RX7 TX7 15
theorem nmX7 : ∀ a, a < 15 → ∀ b, b < 15 → a ≠ b → (TX7 a).2.1 ≠ (TX7 b).2.1 := by decide +kernel
theorem tyX7_ok : ∀ k, k < 15 → parseFieldDescriptor (TX7 k).2.2.1 = some (tyX7 k) := by decide +kernel
abbrev cX7_init : ByteArray := prog_9_method_1_code
def yX7_init : MethodName := ⟨RX7, "<init>", "()V"⟩
abbrev cX7_in : ByteArray := prog_9_method_2_code
def yX7_in : MethodName := ⟨RX7, "in", "(III)Z"⟩
abbrev cX7_isPoint : ByteArray := prog_9_method_3_code
def yX7_isPoint : MethodName := ⟨RX7, "isPoint", "(I)Z"⟩
abbrev cX7_its : ByteArray := prog_9_method_4_code
def yX7_its : MethodName := ⟨RX7, "its", "(II)I"⟩
abbrev cX7_lay : ByteArray := prog_9_method_5_code
def yX7_lay : MethodName := ⟨RX7, "lay", "(III)V"⟩
abbrev cX7_isClaim : ByteArray := prog_9_method_6_code
def yX7_isClaim : MethodName := ⟨RX7, "isClaim", "(I)Z"⟩
abbrev cX7_isWithdrawn : ByteArray := prog_9_method_7_code
def yX7_isWithdrawn : MethodName := ⟨RX7, "isWithdrawn", "(I)Z"⟩
abbrev cX7_bits : ByteArray := prog_9_method_8_code
def yX7_bits : MethodName := ⟨RX7, "bits", "(I)I"⟩
abbrev cX7_record : ByteArray := prog_9_method_9_code
def yX7_record : MethodName := ⟨RX7, "record", "()V"⟩
abbrev cX7_undo : ByteArray := prog_9_method_10_code
def yX7_undo : MethodName := ⟨RX7, "undo", "()I"⟩
abbrev cX7_save : ByteArray := prog_9_method_11_code
def yX7_save : MethodName := ⟨RX7, "save", "(I)I"⟩
abbrev cX7_restore : ByteArray := prog_9_method_12_code
def yX7_restore : MethodName := ⟨RX7, "restore", "(I)I"⟩
abbrev cX7_lapsed : ByteArray := prog_9_method_13_code
def yX7_lapsed : MethodName := ⟨RX7, "lapsed", "(I)Z"⟩
abbrev cX7_hasNoCase : ByteArray := prog_9_method_14_code
def yX7_hasNoCase : MethodName := ⟨RX7, "hasNoCase", "(I)Z"⟩
abbrev cX7_layOut : ByteArray := prog_9_method_15_code
def yX7_layOut : MethodName := ⟨RX7, "layOut", "()V"⟩
abbrev cX7_layAnswered : ByteArray := prog_9_method_16_code
def yX7_layAnswered : MethodName := ⟨RX7, "layAnswered", "(I)V"⟩
abbrev cX7_look : ByteArray := prog_9_method_17_code
def yX7_look : MethodName := ⟨RX7, "look", "()V"⟩
abbrev cX7_standing : ByteArray := prog_9_method_18_code
def yX7_standing : MethodName := ⟨RX7, "standing", "()I"⟩
abbrev cX7_claims : ByteArray := prog_9_method_19_code
def yX7_claims : MethodName := ⟨RX7, "claims", "()I"⟩
abbrev cX7_answersTo : ByteArray := prog_9_method_20_code
def yX7_answersTo : MethodName := ⟨RX7, "answersTo", "(I)I"⟩
abbrev cX7_isValue : ByteArray := prog_9_method_21_code
def yX7_isValue : MethodName := ⟨RX7, "isValue", "(II)Z"⟩
abbrev cX7_set : ByteArray := prog_9_method_22_code
def yX7_set : MethodName := ⟨RX7, "set", "(II)I"⟩
abbrev cX7_file : ByteArray := prog_9_method_23_code
def yX7_file : MethodName := ⟨RX7, "file", "(IIII)I"⟩
abbrev cX7_isFile : ByteArray := prog_9_method_24_code
def yX7_isFile : MethodName := ⟨RX7, "isFile", "(II)Z"⟩
abbrev cX7_whyNotClaim : ByteArray := prog_9_method_25_code
def yX7_whyNotClaim : MethodName := ⟨RX7, "whyNotClaim", "(III)I"⟩
abbrev cX7_claim : ByteArray := prog_9_method_26_code
def yX7_claim : MethodName := ⟨RX7, "claim", "(III)I"⟩
abbrev cX7_whyNotAnswer : ByteArray := prog_9_method_27_code
def yX7_whyNotAnswer : MethodName := ⟨RX7, "whyNotAnswer", "(III)I"⟩
abbrev cX7_answer : ByteArray := prog_9_method_28_code
def yX7_answer : MethodName := ⟨RX7, "answer", "(III)I"⟩
abbrev cX7_whyNotWithdraw : ByteArray := prog_9_method_29_code
def yX7_whyNotWithdraw : MethodName := ⟨RX7, "whyNotWithdraw", "(I)I"⟩
abbrev cX7_withdraw : ByteArray := prog_9_method_30_code
def yX7_withdraw : MethodName := ⟨RX7, "withdraw", "(I)I"⟩
abbrev cX7_whyNotRenew : ByteArray := prog_9_method_31_code
def yX7_whyNotRenew : MethodName := ⟨RX7, "whyNotRenew", "(I)I"⟩
abbrev cX7_renew : ByteArray := prog_9_method_32_code
def yX7_renew : MethodName := ⟨RX7, "renew", "(I)I"⟩
abbrev cX7_overruleIt : ByteArray := prog_9_method_33_code
def yX7_overruleIt : MethodName := ⟨RX7, "overruleIt", "(I)I"⟩
abbrev cX7_overrule : ByteArray := prog_9_method_34_code
def yX7_overrule : MethodName := ⟨RX7, "overrule", "(I)I"⟩
abbrev cX7_whyNotPass : ByteArray := prog_9_method_35_code
def yX7_whyNotPass : MethodName := ⟨RX7, "whyNotPass", "(I)I"⟩
abbrev cX7_pass : ByteArray := prog_9_method_36_code
def yX7_pass : MethodName := ⟨RX7, "pass", "(I)I"⟩
abbrev cX7_lowestThatStands : ByteArray := prog_9_method_37_code
def yX7_lowestThatStands : MethodName := ⟨RX7, "lowestThatStands", "(I)I"⟩
abbrev cX7_depth : ByteArray := prog_9_method_38_code
def yX7_depth : MethodName := ⟨RX7, "depth", "(I)I"⟩
abbrev cX7_daysYet : ByteArray := prog_9_method_39_code
def yX7_daysYet : MethodName := ⟨RX7, "daysYet", "(I)I"⟩
abbrev cX7_of : ByteArray := prog_9_method_40_code
def yX7_of : MethodName := ⟨RX7, "of", "(II)I"⟩
abbrev cX7_outOnes : ByteArray := prog_9_method_41_code
def yX7_outOnes : MethodName := ⟨RX7, "outOnes", "()I"⟩
abbrev cX7_answeredOnes : ByteArray := prog_9_method_42_code
def yX7_answeredOnes : MethodName := ⟨RX7, "answeredOnes", "()I"⟩
abbrev cX7_ofSide : ByteArray := prog_9_method_43_code
def yX7_ofSide : MethodName := ⟨RX7, "ofSide", "(I)I"⟩
abbrev cX7_count : ByteArray := prog_9_method_44_code
def yX7_count : MethodName := ⟨RX7, "count", "(I)I"⟩
abbrev cX7_points : ByteArray := prog_9_method_45_code
def yX7_points : MethodName := ⟨RX7, "points", "(I)I"⟩
abbrev cX7_bitsOf : ByteArray := prog_9_method_46_code
def yX7_bitsOf : MethodName := ⟨RX7, "bitsOf", "(F)I"⟩
abbrev cX7_share : ByteArray := prog_9_method_47_code
def yX7_share : MethodName := ⟨RX7, "share", "(I)I"⟩
abbrev cX7_layCosts : ByteArray := prog_9_method_48_code
def yX7_layCosts : MethodName := ⟨RX7, "layCosts", "()V"⟩
abbrev cX7_toFall : ByteArray := prog_9_method_49_code
def yX7_toFall : MethodName := ⟨RX7, "toFall", "(I)I"⟩
abbrev cX7_toStand : ByteArray := prog_9_method_50_code
def yX7_toStand : MethodName := ⟨RX7, "toStand", "(I)I"⟩
abbrev cX7_changesBy : ByteArray := prog_9_method_51_code
def yX7_changesBy : MethodName := ⟨RX7, "changesBy", "(I)I"⟩
abbrev cX7_bestAnswer : ByteArray := prog_9_method_52_code
def yX7_bestAnswer : MethodName := ⟨RX7, "bestAnswer", "(I)I"⟩
abbrev cX7_changesIn : ByteArray := prog_9_method_53_code
def yX7_changesIn : MethodName := ⟨RX7, "changesIn", "()I"⟩
abbrev cX7_leastPages : ByteArray := prog_9_method_54_code
def yX7_leastPages : MethodName := ⟨RX7, "leastPages", "()I"⟩
abbrev cX7_put : ByteArray := prog_9_method_55_code
def yX7_put : MethodName := ⟨RX7, "put", "(J)I"⟩
abbrev cX7_wipe : ByteArray := prog_9_method_56_code
def yX7_wipe : MethodName := ⟨RX7, "wipe", "()I"⟩
abbrev cX7_letter : ByteArray := prog_9_method_57_code
def yX7_letter : MethodName := ⟨RX7, "letter", "()I"⟩
abbrev cX7_wants : ByteArray := prog_9_method_58_code
def yX7_wants : MethodName := ⟨RX7, "wants", "(Z)V"⟩
abbrev cX7_digit : ByteArray := prog_9_method_59_code
def yX7_digit : MethodName := ⟨RX7, "digit", "(II)I"⟩
abbrev cX7_number : ByteArray := prog_9_method_60_code
def yX7_number : MethodName := ⟨RX7, "number", "()I"⟩
abbrev cX7_cites : ByteArray := prog_9_method_61_code
def yX7_cites : MethodName := ⟨RX7, "cites", "()I"⟩
abbrev cX7_readOrder : ByteArray := prog_9_method_62_code
def yX7_readOrder : MethodName := ⟨RX7, "readOrder", "()V"⟩
abbrev cX7_readPad : ByteArray := prog_9_method_63_code
def yX7_readPad : MethodName := ⟨RX7, "readPad", "()I"⟩
abbrev cX7_fault : ByteArray := prog_9_method_64_code
def yX7_fault : MethodName := ⟨RX7, "fault", "()I"⟩
abbrev cX7_whyNot : ByteArray := prog_9_method_65_code
def yX7_whyNot : MethodName := ⟨RX7, "whyNot", "(IIII)I"⟩
abbrev cX7_does : ByteArray := prog_9_method_66_code
def yX7_does : MethodName := ⟨RX7, "does", "(I)Z"⟩
abbrev cX7_carryOut : ByteArray := prog_9_method_67_code
def yX7_carryOut : MethodName := ⟨RX7, "carryOut", "()I"⟩
def RJ6 : String := "java/lang/Integer"
def TJ6 : u_T := fun k => match k with
  | _ => ("", "", "", false)
def tyJ6 : Nat → FieldType := fun k => match k with
  | _ => .int
abbrev wsJ60 : List Cond := u_ws RJ6 TJ6 0
theorem nmJ6 : ∀ a, a < 0 → ∀ b, b < 0 → a ≠ b → (TJ6 a).2.1 ≠ (TJ6 b).2.1 := by decide +kernel
theorem tyJ6_ok : ∀ k, k < 0 → parseFieldDescriptor (TJ6 k).2.2.1 = some (tyJ6 k) := by decide +kernel
abbrev cJ6_bitCount_0f7a4 : ByteArray := prog_10_method_49_code
def yJ6_bitCount_0f7a4 : MethodName := ⟨RJ6, "bitCount", "(I)I"⟩
def RJ9 : String := "java/lang/Math"
def TJ9 : u_T := fun k => match k with
  | _ => ("", "", "", false)
def tyJ9 : Nat → FieldType := fun k => match k with
  | _ => .int
abbrev wsJ90 : List Cond := u_ws RJ9 TJ9 0
theorem nmJ9 : ∀ a, a < 0 → ∀ b, b < 0 → a ≠ b → (TJ9 a).2.1 ≠ (TJ9 b).2.1 := by decide +kernel
theorem tyJ9_ok : ∀ k, k < 0 → parseFieldDescriptor (TJ9 k).2.2.1 = some (tyJ9 k) := by decide +kernel
abbrev cJ9_max_7cf53 : ByteArray := prog_11_method_65_code
def yJ9_max_7cf53 : MethodName := ⟨RJ9, "max", "(II)I"⟩
abbrev cJ9_min_7cf53 : ByteArray := prog_11_method_69_code
def yJ9_min_7cf53 : MethodName := ⟨RJ9, "min", "(II)I"⟩
def RL : String := "PointAnswersLaw"
abbrev cL_law : ByteArray := code
def yL_law : MethodName := ⟨RL, "law", "([I)Z"⟩
def wsX4_init : List Cond := .code yX4_init cX4_init 1 none :: ([.methodLink RX4 1 objectInit, .instanceMethod objectInit, .code objectInit ⟨#[0xb1]⟩ 1 none])
def wsX0_init : List Cond := .code yX0_init cX0_init 2 none :: ([.methodLink RX0 3 objectInit, .instanceMethod objectInit, .code objectInit ⟨#[0xb1]⟩ 1 none, .classLink RX0 9 RX4, .fieldLink RX0 11 "PointAnswers$Bundle" "rows" "[LPointAnswers$Point;", .fieldLink RX0 17 "PointAnswers$Bundle" "lapse" "I", .fieldLink RX0 21 "PointAnswers$Bundle" "allowedPages" "I", .instantiable RX4 7, .initialized RX4, .instanceMethod yX4_init, .code yX4_init cX4_init 1 none, .methodLink RX4 1 objectInit] ++ wsX00 ++ wsX40)
def wsX0_find : List Cond := .code yX0_find cX0_find 2 (some (.object "PointAnswers$Point")) :: ([.fieldLink RX0 25 "PointAnswers$Bundle" "size" "I", .fieldLink RX0 11 "PointAnswers$Bundle" "rows" "[LPointAnswers$Point;"] ++ wsX00)
def wsX4_become : List Cond := .code yX4_become cX4_become 2 none :: ([.fieldLink RX4 7 "PointAnswers$Point" "side" "I", .fieldLink RX4 13 "PointAnswers$Point" "pages" "I", .fieldLink RX4 16 "PointAnswers$Point" "cases" "I", .fieldLink RX4 19 "PointAnswers$Point" "target" "I", .fieldLink RX4 22 "PointAnswers$Point" "filed" "I", .fieldLink RX4 25 "PointAnswers$Point" "lastsFrom" "I", .fieldLink RX4 28 "PointAnswers$Point" "withdrawn" "Z"] ++ wsX40)
def wsX0_become : List Cond := .code yX0_become cX0_become 5 none :: ([.fieldLink RX0 25 "PointAnswers$Bundle" "size" "I", .fieldLink RX0 28 "PointAnswers$Bundle" "day" "I", .fieldLink RX0 31 "PointAnswers$Bundle" "overruled" "I", .fieldLink RX0 17 "PointAnswers$Bundle" "lapse" "I", .fieldLink RX0 21 "PointAnswers$Bundle" "allowedPages" "I", .fieldLink RX0 11 "PointAnswers$Bundle" "rows" "[LPointAnswers$Point;", .methodLink RX0 34 yX0_find, .instanceMethod yX0_find, .selects RX0 yX0_find yX0_find, .initialized RX0, .code yX0_find cX0_find 2 (some (.object "PointAnswers$Point")), .instanceMethod yX4_become, .initialized RX4, .selects RX4 yX4_become yX4_become, .code yX4_become cX4_become 2 none, .fieldLink RX4 7 "PointAnswers$Point" "side" "I", .fieldLink RX4 13 "PointAnswers$Point" "pages" "I", .fieldLink RX4 16 "PointAnswers$Point" "cases" "I", .fieldLink RX4 19 "PointAnswers$Point" "target" "I", .fieldLink RX4 22 "PointAnswers$Point" "filed" "I", .fieldLink RX4 25 "PointAnswers$Point" "lastsFrom" "I", .fieldLink RX4 28 "PointAnswers$Point" "withdrawn" "Z"] ++ wsX00 ++ wsX40)
def wsX0_freeRow : List Cond := .code yX0_freeRow cX0_freeRow 1 (some (.object "PointAnswers$Point")) :: ([.fieldLink RX0 25 "PointAnswers$Bundle" "size" "I", .fieldLink RX0 11 "PointAnswers$Bundle" "rows" "[LPointAnswers$Point;"] ++ wsX00)
def wsX0_adjust : List Cond := .code yX0_adjust cX0_adjust 4 (some .int) :: ([.fieldLink RX0 17 "PointAnswers$Bundle" "lapse" "I", .fieldLink RX0 21 "PointAnswers$Bundle" "allowedPages" "I"] ++ wsX00)
def wsX0_canBeFiled : List Cond := .code yX0_canBeFiled cX0_canBeFiled 2 (some .boolean) :: ([])
def wsX0_file : List Cond := .code yX0_file cX0_file 6 (some .int) :: ([.fieldLink RX0 28 "PointAnswers$Bundle" "day" "I", .fieldLink RX0 25 "PointAnswers$Bundle" "size" "I", .methodLink RX0 50 yX0_freeRow, .instanceMethod yX0_freeRow, .selects RX0 yX0_freeRow yX0_freeRow, .initialized RX0, .code yX0_freeRow cX0_freeRow 1 (some (.object "PointAnswers$Point")), .fieldLink RX0 11 "PointAnswers$Bundle" "rows" "[LPointAnswers$Point;"] ++ wsX40 ++ wsX00)
def wsX0_fileClaim : List Cond := .code yX0_fileClaim cX0_fileClaim 4 (some .int) :: ([.methodLink RX0 42 yX0_canBeFiled, .static yX0_canBeFiled, .initialized RX0, .code yX0_canBeFiled cX0_canBeFiled 2 (some .boolean), .methodLink RX0 46 yX0_file, .instanceMethod yX0_file, .selects RX0 yX0_file yX0_file, .code yX0_file cX0_file 6 (some .int), .fieldLink RX0 28 "PointAnswers$Bundle" "day" "I", .fieldLink RX0 25 "PointAnswers$Bundle" "size" "I", .methodLink RX0 50 yX0_freeRow, .instanceMethod yX0_freeRow, .selects RX0 yX0_freeRow yX0_freeRow, .code yX0_freeRow cX0_freeRow 1 (some (.object "PointAnswers$Point")), .fieldLink RX0 11 "PointAnswers$Bundle" "rows" "[LPointAnswers$Point;"] ++ wsX40 ++ wsX00)
def wsX0_fileAnswer : List Cond := .code yX0_fileAnswer cX0_fileAnswer 5 (some .int) :: ([.methodLink RX0 34 yX0_find, .instanceMethod yX0_find, .selects RX0 yX0_find yX0_find, .initialized RX0, .code yX0_find cX0_find 2 (some (.object "PointAnswers$Point")), .fieldLink RX0 25 "PointAnswers$Bundle" "size" "I", .fieldLink RX0 11 "PointAnswers$Bundle" "rows" "[LPointAnswers$Point;", .methodLink RX0 42 yX0_canBeFiled, .static yX0_canBeFiled, .code yX0_canBeFiled cX0_canBeFiled 2 (some .boolean), .methodLink RX0 50 yX0_freeRow, .instanceMethod yX0_freeRow, .selects RX0 yX0_freeRow yX0_freeRow, .code yX0_freeRow cX0_freeRow 1 (some (.object "PointAnswers$Point")), .methodLink RX0 46 yX0_file, .instanceMethod yX0_file, .selects RX0 yX0_file yX0_file, .code yX0_file cX0_file 6 (some .int), .fieldLink RX0 28 "PointAnswers$Bundle" "day" "I"] ++ wsX40 ++ wsX00)
def wsX0_withdrawn : List Cond := .code yX0_withdrawn cX0_withdrawn 4 (some .int) :: ([.fieldLink RX0 25 "PointAnswers$Bundle" "size" "I", .methodLink RX0 34 yX0_find, .instanceMethod yX0_find, .selects RX0 yX0_find yX0_find, .initialized RX0, .code yX0_find cX0_find 2 (some (.object "PointAnswers$Point")), .fieldLink RX0 11 "PointAnswers$Bundle" "rows" "[LPointAnswers$Point;"] ++ wsX00 ++ wsX40)
def wsX0_struck : List Cond := .code yX0_struck cX0_struck 6 (some .int) :: ([.fieldLink RX0 25 "PointAnswers$Bundle" "size" "I", .fieldLink RX0 21 "PointAnswers$Bundle" "allowedPages" "I", .methodLink RX0 34 yX0_find, .instanceMethod yX0_find, .selects RX0 yX0_find yX0_find, .initialized RX0, .code yX0_find cX0_find 2 (some (.object "PointAnswers$Point")), .fieldLink RX0 11 "PointAnswers$Bundle" "rows" "[LPointAnswers$Point;"] ++ wsX00 ++ wsX40)
def wsX0_lapsedOn : List Cond := .code yX0_lapsedOn cX0_lapsedOn 5 (some .int) :: ([.fieldLink RX0 25 "PointAnswers$Bundle" "size" "I", .fieldLink RX0 17 "PointAnswers$Bundle" "lapse" "I", .methodLink RX0 34 yX0_find, .instanceMethod yX0_find, .selects RX0 yX0_find yX0_find, .initialized RX0, .code yX0_find cX0_find 2 (some (.object "PointAnswers$Point")), .fieldLink RX0 11 "PointAnswers$Bundle" "rows" "[LPointAnswers$Point;"] ++ wsX00 ++ wsX40)
def wsX0_baseless : List Cond := .code yX0_baseless cX0_baseless 4 (some .int) :: ([.fieldLink RX0 25 "PointAnswers$Bundle" "size" "I", .fieldLink RX0 31 "PointAnswers$Bundle" "overruled" "I", .methodLink RX0 34 yX0_find, .instanceMethod yX0_find, .selects RX0 yX0_find yX0_find, .initialized RX0, .code yX0_find cX0_find 2 (some (.object "PointAnswers$Point")), .fieldLink RX0 11 "PointAnswers$Bundle" "rows" "[LPointAnswers$Point;"] ++ wsX00 ++ wsX40)
def wsX0_out_r1 : List Cond := [Cond.fieldLink RX0 28 "PointAnswers$Bundle" "day" "I", Cond.methodLink RX0 98 yX0_withdrawn, Cond.instanceMethod yX0_withdrawn, Cond.selects RX0 yX0_withdrawn yX0_withdrawn, Cond.initialized RX0, Cond.code yX0_withdrawn cX0_withdrawn 4 (some .int), Cond.fieldLink RX0 25 "PointAnswers$Bundle" "size" "I", Cond.methodLink RX0 34 yX0_find, Cond.instanceMethod yX0_find, Cond.selects RX0 yX0_find yX0_find, Cond.code yX0_find cX0_find 2 (some (.object "PointAnswers$Point")), Cond.fieldLink RX0 11 "PointAnswers$Bundle" "rows" "[LPointAnswers$Point;", Cond.methodLink RX0 100 yX0_struck, Cond.instanceMethod yX0_struck, Cond.selects RX0 yX0_struck yX0_struck, Cond.code yX0_struck cX0_struck 6 (some .int), Cond.fieldLink RX0 21 "PointAnswers$Bundle" "allowedPages" "I", Cond.methodLink RX0 103 yX0_lapsedOn, Cond.instanceMethod yX0_lapsedOn, Cond.selects RX0 yX0_lapsedOn yX0_lapsedOn, Cond.code yX0_lapsedOn cX0_lapsedOn 5 (some .int), Cond.fieldLink RX0 17 "PointAnswers$Bundle" "lapse" "I", Cond.methodLink RX0 106 yX0_baseless, Cond.instanceMethod yX0_baseless]
def wsX0_out_r2 : List Cond := [Cond.selects RX0 yX0_baseless yX0_baseless, Cond.code yX0_baseless cX0_baseless 4 (some .int), Cond.fieldLink RX0 31 "PointAnswers$Bundle" "overruled" "I"]
def wsX0_out : List Cond := .code yX0_out cX0_out 1 (some .int) :: ((wsX0_out_r1 ++ wsX0_out_r2) ++ wsX00 ++ wsX40)
def wsX6_has : List Cond := .code yX6_has cX6_has 2 (some .boolean) :: ([])
def wsX0_targetOf : List Cond := .code yX0_targetOf cX0_targetOf 3 (some .int) :: ([.methodLink RX0 34 yX0_find, .instanceMethod yX0_find, .selects RX0 yX0_find yX0_find, .initialized RX0, .code yX0_find cX0_find 2 (some (.object "PointAnswers$Point")), .fieldLink RX0 25 "PointAnswers$Bundle" "size" "I", .fieldLink RX0 11 "PointAnswers$Bundle" "rows" "[LPointAnswers$Point;"] ++ wsX40 ++ wsX00)
def wsX0_standingIf : List Cond := .code yX0_standingIf cX0_standingIf 6 (some .int) :: ([.fieldLink RX0 25 "PointAnswers$Bundle" "size" "I", .static yX6_has, .initialized RX6, .code yX6_has cX6_has 2 (some .boolean), .methodLink RX0 95 yX0_targetOf, .instanceMethod yX0_targetOf, .selects RX0 yX0_targetOf yX0_targetOf, .initialized RX0, .code yX0_targetOf cX0_targetOf 3 (some .int), .methodLink RX0 34 yX0_find, .instanceMethod yX0_find, .selects RX0 yX0_find yX0_find, .code yX0_find cX0_find 2 (some (.object "PointAnswers$Point")), .fieldLink RX0 11 "PointAnswers$Bundle" "rows" "[LPointAnswers$Point;"] ++ wsX00 ++ wsX40)
def wsX0_standing_r1 : List Cond := [Cond.methodLink RX0 109 yX0_out, Cond.instanceMethod yX0_out, Cond.selects RX0 yX0_out yX0_out, Cond.initialized RX0, Cond.code yX0_out cX0_out 1 (some .int), Cond.fieldLink RX0 28 "PointAnswers$Bundle" "day" "I", Cond.methodLink RX0 98 yX0_withdrawn, Cond.instanceMethod yX0_withdrawn, Cond.selects RX0 yX0_withdrawn yX0_withdrawn, Cond.code yX0_withdrawn cX0_withdrawn 4 (some .int), Cond.fieldLink RX0 25 "PointAnswers$Bundle" "size" "I", Cond.methodLink RX0 34 yX0_find, Cond.instanceMethod yX0_find, Cond.selects RX0 yX0_find yX0_find, Cond.code yX0_find cX0_find 2 (some (.object "PointAnswers$Point")), Cond.fieldLink RX0 11 "PointAnswers$Bundle" "rows" "[LPointAnswers$Point;", Cond.methodLink RX0 100 yX0_struck, Cond.instanceMethod yX0_struck, Cond.selects RX0 yX0_struck yX0_struck, Cond.code yX0_struck cX0_struck 6 (some .int), Cond.fieldLink RX0 21 "PointAnswers$Bundle" "allowedPages" "I", Cond.methodLink RX0 103 yX0_lapsedOn, Cond.instanceMethod yX0_lapsedOn, Cond.selects RX0 yX0_lapsedOn yX0_lapsedOn]
def wsX0_standing_r2 : List Cond := [Cond.code yX0_lapsedOn cX0_lapsedOn 5 (some .int), Cond.fieldLink RX0 17 "PointAnswers$Bundle" "lapse" "I", Cond.methodLink RX0 106 yX0_baseless, Cond.instanceMethod yX0_baseless, Cond.selects RX0 yX0_baseless yX0_baseless, Cond.code yX0_baseless cX0_baseless 4 (some .int), Cond.fieldLink RX0 31 "PointAnswers$Bundle" "overruled" "I", Cond.methodLink RX0 112 yX0_standingIf, Cond.instanceMethod yX0_standingIf, Cond.selects RX0 yX0_standingIf yX0_standingIf, Cond.code yX0_standingIf cX0_standingIf 6 (some .int), Cond.static yX6_has, Cond.initialized RX6, Cond.code yX6_has cX6_has 2 (some .boolean), Cond.methodLink RX0 95 yX0_targetOf, Cond.instanceMethod yX0_targetOf, Cond.selects RX0 yX0_targetOf yX0_targetOf, Cond.code yX0_targetOf cX0_targetOf 3 (some .int)]
def wsX0_standing : List Cond := .code yX0_standing cX0_standing 1 (some .int) :: ((wsX0_standing_r1 ++ wsX0_standing_r2) ++ wsX00 ++ wsX40)
def wsJ6_bitCount_0f7a4 : List Cond := .code yJ6_bitCount_0f7a4 cJ6_bitCount_0f7a4 1 (some .int) :: ([.constant RJ6 265 (1431655765), .constant RJ6 266 (858993459), .constant RJ6 267 (252645135)])
def wsX0_takeBack_r1 : List Cond := [Cond.methodLink RX0 34 yX0_find, Cond.instanceMethod yX0_find, Cond.selects RX0 yX0_find yX0_find, Cond.initialized RX0, Cond.code yX0_find cX0_find 2 (some (.object "PointAnswers$Point")), Cond.fieldLink RX0 25 "PointAnswers$Bundle" "size" "I", Cond.fieldLink RX0 11 "PointAnswers$Bundle" "rows" "[LPointAnswers$Point;", Cond.methodLink RX0 76 yX0_standing, Cond.instanceMethod yX0_standing, Cond.selects RX0 yX0_standing yX0_standing, Cond.code yX0_standing cX0_standing 1 (some .int), Cond.methodLink RX0 109 yX0_out, Cond.instanceMethod yX0_out, Cond.selects RX0 yX0_out yX0_out, Cond.code yX0_out cX0_out 1 (some .int), Cond.fieldLink RX0 28 "PointAnswers$Bundle" "day" "I", Cond.methodLink RX0 98 yX0_withdrawn, Cond.instanceMethod yX0_withdrawn, Cond.selects RX0 yX0_withdrawn yX0_withdrawn, Cond.code yX0_withdrawn cX0_withdrawn 4 (some .int), Cond.methodLink RX0 100 yX0_struck, Cond.instanceMethod yX0_struck, Cond.selects RX0 yX0_struck yX0_struck, Cond.code yX0_struck cX0_struck 6 (some .int)]
def wsX0_takeBack_r2 : List Cond := [Cond.fieldLink RX0 21 "PointAnswers$Bundle" "allowedPages" "I", Cond.methodLink RX0 103 yX0_lapsedOn, Cond.instanceMethod yX0_lapsedOn, Cond.selects RX0 yX0_lapsedOn yX0_lapsedOn, Cond.code yX0_lapsedOn cX0_lapsedOn 5 (some .int), Cond.fieldLink RX0 17 "PointAnswers$Bundle" "lapse" "I", Cond.methodLink RX0 106 yX0_baseless, Cond.instanceMethod yX0_baseless, Cond.selects RX0 yX0_baseless yX0_baseless, Cond.code yX0_baseless cX0_baseless 4 (some .int), Cond.fieldLink RX0 31 "PointAnswers$Bundle" "overruled" "I", Cond.methodLink RX0 112 yX0_standingIf, Cond.instanceMethod yX0_standingIf, Cond.selects RX0 yX0_standingIf yX0_standingIf, Cond.code yX0_standingIf cX0_standingIf 6 (some .int), Cond.static yX6_has, Cond.initialized RX6, Cond.code yX6_has cX6_has 2 (some .boolean), Cond.methodLink RX0 95 yX0_targetOf, Cond.instanceMethod yX0_targetOf, Cond.selects RX0 yX0_targetOf yX0_targetOf, Cond.code yX0_targetOf cX0_targetOf 3 (some .int), Cond.methodLink RX0 80 yJ6_bitCount_0f7a4, Cond.static yJ6_bitCount_0f7a4]
def wsX0_takeBack_r3 : List Cond := [Cond.initialized RJ6, Cond.code yJ6_bitCount_0f7a4 cJ6_bitCount_0f7a4 1 (some .int), Cond.constant RJ6 265 (1431655765), Cond.constant RJ6 266 (858993459), Cond.constant RJ6 267 (252645135)]
def wsX0_takeBack : List Cond := .code yX0_takeBack cX0_takeBack 3 (some .int) :: ((wsX0_takeBack_r1 ++ (wsX0_takeBack_r2 ++ wsX0_takeBack_r3)) ++ wsX40 ++ wsX00)
def wsX0_prolong : List Cond := .code yX0_prolong cX0_prolong 4 (some .int) :: ([.fieldLink RX0 28 "PointAnswers$Bundle" "day" "I", .methodLink RX0 34 yX0_find, .instanceMethod yX0_find, .selects RX0 yX0_find yX0_find, .initialized RX0, .code yX0_find cX0_find 2 (some (.object "PointAnswers$Point")), .fieldLink RX0 25 "PointAnswers$Bundle" "size" "I", .fieldLink RX0 11 "PointAnswers$Bundle" "rows" "[LPointAnswers$Point;"] ++ wsX40 ++ wsX00)
def wsX0_turnCase : List Cond := .code yX0_turnCase cX0_turnCase 2 (some .int) :: ([.fieldLink RX0 31 "PointAnswers$Bundle" "overruled" "I", .static yX6_has, .initialized RX6, .code yX6_has cX6_has 2 (some .boolean)] ++ wsX00)
def wsX0_moveOn_r1 : List Cond := [Cond.fieldLink RX0 28 "PointAnswers$Bundle" "day" "I", Cond.methodLink RX0 76 yX0_standing, Cond.instanceMethod yX0_standing, Cond.selects RX0 yX0_standing yX0_standing, Cond.initialized RX0, Cond.code yX0_standing cX0_standing 1 (some .int), Cond.methodLink RX0 109 yX0_out, Cond.instanceMethod yX0_out, Cond.selects RX0 yX0_out yX0_out, Cond.code yX0_out cX0_out 1 (some .int), Cond.methodLink RX0 98 yX0_withdrawn, Cond.instanceMethod yX0_withdrawn, Cond.selects RX0 yX0_withdrawn yX0_withdrawn, Cond.code yX0_withdrawn cX0_withdrawn 4 (some .int), Cond.fieldLink RX0 25 "PointAnswers$Bundle" "size" "I", Cond.methodLink RX0 34 yX0_find, Cond.instanceMethod yX0_find, Cond.selects RX0 yX0_find yX0_find, Cond.code yX0_find cX0_find 2 (some (.object "PointAnswers$Point")), Cond.fieldLink RX0 11 "PointAnswers$Bundle" "rows" "[LPointAnswers$Point;", Cond.methodLink RX0 100 yX0_struck, Cond.instanceMethod yX0_struck, Cond.selects RX0 yX0_struck yX0_struck, Cond.code yX0_struck cX0_struck 6 (some .int)]
def wsX0_moveOn_r2 : List Cond := [Cond.fieldLink RX0 21 "PointAnswers$Bundle" "allowedPages" "I", Cond.methodLink RX0 103 yX0_lapsedOn, Cond.instanceMethod yX0_lapsedOn, Cond.selects RX0 yX0_lapsedOn yX0_lapsedOn, Cond.code yX0_lapsedOn cX0_lapsedOn 5 (some .int), Cond.fieldLink RX0 17 "PointAnswers$Bundle" "lapse" "I", Cond.methodLink RX0 106 yX0_baseless, Cond.instanceMethod yX0_baseless, Cond.selects RX0 yX0_baseless yX0_baseless, Cond.code yX0_baseless cX0_baseless 4 (some .int), Cond.fieldLink RX0 31 "PointAnswers$Bundle" "overruled" "I", Cond.methodLink RX0 112 yX0_standingIf, Cond.instanceMethod yX0_standingIf, Cond.selects RX0 yX0_standingIf yX0_standingIf, Cond.code yX0_standingIf cX0_standingIf 6 (some .int), Cond.static yX6_has, Cond.initialized RX6, Cond.code yX6_has cX6_has 2 (some .boolean), Cond.methodLink RX0 95 yX0_targetOf, Cond.instanceMethod yX0_targetOf, Cond.selects RX0 yX0_targetOf yX0_targetOf, Cond.code yX0_targetOf cX0_targetOf 3 (some .int), Cond.methodLink RX0 80 yJ6_bitCount_0f7a4, Cond.static yJ6_bitCount_0f7a4]
def wsX0_moveOn_r3 : List Cond := [Cond.initialized RJ6, Cond.code yJ6_bitCount_0f7a4 cJ6_bitCount_0f7a4 1 (some .int), Cond.constant RJ6 265 (1431655765), Cond.constant RJ6 266 (858993459), Cond.constant RJ6 267 (252645135)]
def wsX0_moveOn : List Cond := .code yX0_moveOn cX0_moveOn 2 (some .int) :: ((wsX0_moveOn_r1 ++ (wsX0_moveOn_r2 ++ wsX0_moveOn_r3)) ++ wsX00 ++ wsX40)
def wsX0_all : List Cond := .code yX0_all cX0_all 1 (some .int) :: ([.fieldLink RX0 25 "PointAnswers$Bundle" "size" "I"] ++ wsX00)
def wsX0_answersTo : List Cond := .code yX0_answersTo cX0_answersTo 5 (some .int) :: ([.fieldLink RX0 25 "PointAnswers$Bundle" "size" "I", .methodLink RX0 34 yX0_find, .instanceMethod yX0_find, .selects RX0 yX0_find yX0_find, .initialized RX0, .code yX0_find cX0_find 2 (some (.object "PointAnswers$Point")), .fieldLink RX0 11 "PointAnswers$Bundle" "rows" "[LPointAnswers$Point;"] ++ wsX00 ++ wsX40)
def wsX0_claims : List Cond := .code yX0_claims cX0_claims 1 (some .int) :: ([.methodLink RX0 89 yX0_answersTo, .instanceMethod yX0_answersTo, .selects RX0 yX0_answersTo yX0_answersTo, .initialized RX0, .code yX0_answersTo cX0_answersTo 5 (some .int), .fieldLink RX0 25 "PointAnswers$Bundle" "size" "I", .methodLink RX0 34 yX0_find, .instanceMethod yX0_find, .selects RX0 yX0_find yX0_find, .code yX0_find cX0_find 2 (some (.object "PointAnswers$Point")), .fieldLink RX0 11 "PointAnswers$Bundle" "rows" "[LPointAnswers$Point;"] ++ wsX00 ++ wsX40)
def wsX0_withoutAnswers : List Cond := .code yX0_withoutAnswers cX0_withoutAnswers 3 (some .int) :: ([.fieldLink RX0 25 "PointAnswers$Bundle" "size" "I", .methodLink RX0 92 yX0_all, .instanceMethod yX0_all, .selects RX0 yX0_all yX0_all, .initialized RX0, .code yX0_all cX0_all 1 (some .int), .methodLink RX0 95 yX0_targetOf, .instanceMethod yX0_targetOf, .selects RX0 yX0_targetOf yX0_targetOf, .code yX0_targetOf cX0_targetOf 3 (some .int), .methodLink RX0 34 yX0_find, .instanceMethod yX0_find, .selects RX0 yX0_find yX0_find, .code yX0_find cX0_find 2 (some (.object "PointAnswers$Point")), .fieldLink RX0 11 "PointAnswers$Bundle" "rows" "[LPointAnswers$Point;"] ++ wsX00 ++ wsX40)
def wsX0_ofSide : List Cond := .code yX0_ofSide cX0_ofSide 5 (some .int) :: ([.fieldLink RX0 25 "PointAnswers$Bundle" "size" "I", .methodLink RX0 34 yX0_find, .instanceMethod yX0_find, .selects RX0 yX0_find yX0_find, .initialized RX0, .code yX0_find cX0_find 2 (some (.object "PointAnswers$Point")), .fieldLink RX0 11 "PointAnswers$Bundle" "rows" "[LPointAnswers$Point;"] ++ wsX00 ++ wsX40)
def wsX0_answered_r1 : List Cond := [Cond.methodLink RX0 92 yX0_all, Cond.instanceMethod yX0_all, Cond.selects RX0 yX0_all yX0_all, Cond.initialized RX0, Cond.code yX0_all cX0_all 1 (some .int), Cond.fieldLink RX0 25 "PointAnswers$Bundle" "size" "I", Cond.methodLink RX0 109 yX0_out, Cond.instanceMethod yX0_out, Cond.selects RX0 yX0_out yX0_out, Cond.code yX0_out cX0_out 1 (some .int), Cond.fieldLink RX0 28 "PointAnswers$Bundle" "day" "I", Cond.methodLink RX0 98 yX0_withdrawn, Cond.instanceMethod yX0_withdrawn, Cond.selects RX0 yX0_withdrawn yX0_withdrawn, Cond.code yX0_withdrawn cX0_withdrawn 4 (some .int), Cond.methodLink RX0 34 yX0_find, Cond.instanceMethod yX0_find, Cond.selects RX0 yX0_find yX0_find, Cond.code yX0_find cX0_find 2 (some (.object "PointAnswers$Point")), Cond.fieldLink RX0 11 "PointAnswers$Bundle" "rows" "[LPointAnswers$Point;", Cond.methodLink RX0 100 yX0_struck, Cond.instanceMethod yX0_struck, Cond.selects RX0 yX0_struck yX0_struck, Cond.code yX0_struck cX0_struck 6 (some .int)]
def wsX0_answered_r2 : List Cond := [Cond.fieldLink RX0 21 "PointAnswers$Bundle" "allowedPages" "I", Cond.methodLink RX0 103 yX0_lapsedOn, Cond.instanceMethod yX0_lapsedOn, Cond.selects RX0 yX0_lapsedOn yX0_lapsedOn, Cond.code yX0_lapsedOn cX0_lapsedOn 5 (some .int), Cond.fieldLink RX0 17 "PointAnswers$Bundle" "lapse" "I", Cond.methodLink RX0 106 yX0_baseless, Cond.instanceMethod yX0_baseless, Cond.selects RX0 yX0_baseless yX0_baseless, Cond.code yX0_baseless cX0_baseless 4 (some .int), Cond.fieldLink RX0 31 "PointAnswers$Bundle" "overruled" "I", Cond.methodLink RX0 76 yX0_standing, Cond.instanceMethod yX0_standing, Cond.selects RX0 yX0_standing yX0_standing, Cond.code yX0_standing cX0_standing 1 (some .int), Cond.methodLink RX0 112 yX0_standingIf, Cond.instanceMethod yX0_standingIf, Cond.selects RX0 yX0_standingIf yX0_standingIf, Cond.code yX0_standingIf cX0_standingIf 6 (some .int), Cond.static yX6_has, Cond.initialized RX6, Cond.code yX6_has cX6_has 2 (some .boolean), Cond.methodLink RX0 95 yX0_targetOf, Cond.instanceMethod yX0_targetOf]
def wsX0_answered_r3 : List Cond := [Cond.selects RX0 yX0_targetOf yX0_targetOf, Cond.code yX0_targetOf cX0_targetOf 3 (some .int)]
def wsX0_answered : List Cond := .code yX0_answered cX0_answered 1 (some .int) :: ((wsX0_answered_r1 ++ (wsX0_answered_r2 ++ wsX0_answered_r3)) ++ wsX00 ++ wsX40)
def wsX0_reasonAgainst_r1 : List Cond := [Cond.fieldLink RX0 28 "PointAnswers$Bundle" "day" "I", Cond.methodLink RX0 98 yX0_withdrawn, Cond.instanceMethod yX0_withdrawn, Cond.selects RX0 yX0_withdrawn yX0_withdrawn, Cond.initialized RX0, Cond.code yX0_withdrawn cX0_withdrawn 4 (some .int), Cond.fieldLink RX0 25 "PointAnswers$Bundle" "size" "I", Cond.methodLink RX0 34 yX0_find, Cond.instanceMethod yX0_find, Cond.selects RX0 yX0_find yX0_find, Cond.code yX0_find cX0_find 2 (some (.object "PointAnswers$Point")), Cond.fieldLink RX0 11 "PointAnswers$Bundle" "rows" "[LPointAnswers$Point;", Cond.static yX6_has, Cond.initialized RX6, Cond.code yX6_has cX6_has 2 (some .boolean), Cond.methodLink RX0 100 yX0_struck, Cond.instanceMethod yX0_struck, Cond.selects RX0 yX0_struck yX0_struck, Cond.code yX0_struck cX0_struck 6 (some .int), Cond.fieldLink RX0 21 "PointAnswers$Bundle" "allowedPages" "I", Cond.methodLink RX0 103 yX0_lapsedOn, Cond.instanceMethod yX0_lapsedOn, Cond.selects RX0 yX0_lapsedOn yX0_lapsedOn, Cond.code yX0_lapsedOn cX0_lapsedOn 5 (some .int)]
def wsX0_reasonAgainst_r2 : List Cond := [Cond.fieldLink RX0 17 "PointAnswers$Bundle" "lapse" "I", Cond.methodLink RX0 106 yX0_baseless, Cond.instanceMethod yX0_baseless, Cond.selects RX0 yX0_baseless yX0_baseless, Cond.code yX0_baseless cX0_baseless 4 (some .int), Cond.fieldLink RX0 31 "PointAnswers$Bundle" "overruled" "I", Cond.methodLink RX0 76 yX0_standing, Cond.instanceMethod yX0_standing, Cond.selects RX0 yX0_standing yX0_standing, Cond.code yX0_standing cX0_standing 1 (some .int), Cond.methodLink RX0 109 yX0_out, Cond.instanceMethod yX0_out, Cond.selects RX0 yX0_out yX0_out, Cond.code yX0_out cX0_out 1 (some .int), Cond.methodLink RX0 112 yX0_standingIf, Cond.instanceMethod yX0_standingIf, Cond.selects RX0 yX0_standingIf yX0_standingIf, Cond.code yX0_standingIf cX0_standingIf 6 (some .int), Cond.methodLink RX0 95 yX0_targetOf, Cond.instanceMethod yX0_targetOf, Cond.selects RX0 yX0_targetOf yX0_targetOf, Cond.code yX0_targetOf cX0_targetOf 3 (some .int)]
def wsX0_reasonAgainst : List Cond := .code yX0_reasonAgainst cX0_reasonAgainst 2 (some .int) :: ((wsX0_reasonAgainst_r1 ++ wsX0_reasonAgainst_r2) ++ wsX00 ++ wsX40)
def wsX0_depthOf : List Cond := .code yX0_depthOf cX0_depthOf 4 (some .int) :: ([.methodLink RX0 34 yX0_find, .instanceMethod yX0_find, .selects RX0 yX0_find yX0_find, .initialized RX0, .code yX0_find cX0_find 2 (some (.object "PointAnswers$Point")), .fieldLink RX0 25 "PointAnswers$Bundle" "size" "I", .fieldLink RX0 11 "PointAnswers$Bundle" "rows" "[LPointAnswers$Point;"] ++ wsX40 ++ wsX00)
def wsX0_daysLeft : List Cond := .code yX0_daysLeft cX0_daysLeft 3 (some .int) :: ([.fieldLink RX0 17 "PointAnswers$Bundle" "lapse" "I", .fieldLink RX0 28 "PointAnswers$Bundle" "day" "I"] ++ wsX40 ++ wsX00)
def wsX0_pagesOf : List Cond := .code yX0_pagesOf cX0_pagesOf 6 (some .int) :: ([.fieldLink RX0 25 "PointAnswers$Bundle" "size" "I", .methodLink RX0 34 yX0_find, .instanceMethod yX0_find, .selects RX0 yX0_find yX0_find, .initialized RX0, .code yX0_find cX0_find 2 (some (.object "PointAnswers$Point")), .fieldLink RX0 11 "PointAnswers$Bundle" "rows" "[LPointAnswers$Point;", .static yX6_has, .initialized RX6, .code yX6_has cX6_has 2 (some .boolean)] ++ wsX00 ++ wsX40)
def wsX1_init : List Cond := .code yX1_init cX1_init 1 none :: ([.methodLink RX1 3 objectInit, .instanceMethod objectInit, .code objectInit ⟨#[0xb1]⟩ 1 none, .arrayClass .int, .fieldLink RX1 9 "PointAnswers$Costs" "fall" "[I", .fieldLink RX1 15 "PointAnswers$Costs" "stand" "[I"] ++ wsX10)
def wsX1_addToTarget : List Cond := .code yX1_addToTarget cX1_addToTarget 4 none :: ([.fieldLink RX1 9 "PointAnswers$Costs" "fall" "[I", .methodLink RX1 45 Lib.Math.min.name, .static Lib.Math.min.name, .initialized "java/lang/Math", .code Lib.Math.min.name Lib.Math.min.code 2 (some .int), .fieldLink RX1 15 "PointAnswers$Costs" "stand" "[I"] ++ wsX10)
def wsX1_weigh_r1 : List Cond := [Cond.fieldLink RX1 9 "PointAnswers$Costs" "fall" "[I", Cond.fieldLink RX1 15 "PointAnswers$Costs" "stand" "[I", Cond.instanceMethod yX0_out, Cond.initialized RX0, Cond.selects RX0 yX0_out yX0_out, Cond.code yX0_out cX0_out 1 (some .int), Cond.fieldLink RX0 28 "PointAnswers$Bundle" "day" "I", Cond.methodLink RX0 98 yX0_withdrawn, Cond.instanceMethod yX0_withdrawn, Cond.selects RX0 yX0_withdrawn yX0_withdrawn, Cond.code yX0_withdrawn cX0_withdrawn 4 (some .int), Cond.fieldLink RX0 25 "PointAnswers$Bundle" "size" "I", Cond.methodLink RX0 34 yX0_find, Cond.instanceMethod yX0_find, Cond.selects RX0 yX0_find yX0_find, Cond.code yX0_find cX0_find 2 (some (.object "PointAnswers$Point")), Cond.fieldLink RX0 11 "PointAnswers$Bundle" "rows" "[LPointAnswers$Point;", Cond.methodLink RX0 100 yX0_struck, Cond.instanceMethod yX0_struck, Cond.selects RX0 yX0_struck yX0_struck, Cond.code yX0_struck cX0_struck 6 (some .int), Cond.fieldLink RX0 21 "PointAnswers$Bundle" "allowedPages" "I", Cond.methodLink RX0 103 yX0_lapsedOn, Cond.instanceMethod yX0_lapsedOn]
def wsX1_weigh_r2 : List Cond := [Cond.selects RX0 yX0_lapsedOn yX0_lapsedOn, Cond.code yX0_lapsedOn cX0_lapsedOn 5 (some .int), Cond.fieldLink RX0 17 "PointAnswers$Bundle" "lapse" "I", Cond.methodLink RX0 106 yX0_baseless, Cond.instanceMethod yX0_baseless, Cond.selects RX0 yX0_baseless yX0_baseless, Cond.code yX0_baseless cX0_baseless 4 (some .int), Cond.fieldLink RX0 31 "PointAnswers$Bundle" "overruled" "I", Cond.instanceMethod yX0_withoutAnswers, Cond.selects RX0 yX0_withoutAnswers yX0_withoutAnswers, Cond.code yX0_withoutAnswers cX0_withoutAnswers 3 (some .int), Cond.methodLink RX0 92 yX0_all, Cond.instanceMethod yX0_all, Cond.selects RX0 yX0_all yX0_all, Cond.code yX0_all cX0_all 1 (some .int), Cond.methodLink RX0 95 yX0_targetOf, Cond.instanceMethod yX0_targetOf, Cond.selects RX0 yX0_targetOf yX0_targetOf, Cond.code yX0_targetOf cX0_targetOf 3 (some .int), Cond.static yX6_has, Cond.initialized RX6, Cond.code yX6_has cX6_has 2 (some .boolean), Cond.methodLink RX1 41 yX1_addToTarget, Cond.instanceMethod yX1_addToTarget]
def wsX1_weigh_r3 : List Cond := [Cond.selects RX1 yX1_addToTarget yX1_addToTarget, Cond.initialized RX1, Cond.code yX1_addToTarget cX1_addToTarget 4 none, Cond.methodLink RX1 45 Lib.Math.min.name, Cond.static Lib.Math.min.name, Cond.initialized "java/lang/Math", Cond.code Lib.Math.min.name Lib.Math.min.code 2 (some .int)]
def wsX1_weigh : List Cond := .code yX1_weigh cX1_weigh 6 none :: ((wsX1_weigh_r1 ++ (wsX1_weigh_r2 ++ wsX1_weigh_r3)) ++ wsX10 ++ wsX40 ++ wsX00)
def wsX1_reachable : List Cond := .code yX1_reachable cX1_reachable 1 (some .int) :: ([])
def wsX1_answersToFall : List Cond := .code yX1_answersToFall cX1_answersToFall 2 (some .int) :: ([.fieldLink RX1 9 "PointAnswers$Costs" "fall" "[I", .methodLink RX1 51 yX1_reachable, .static yX1_reachable, .initialized RX1, .code yX1_reachable cX1_reachable 1 (some .int)] ++ wsX10)
def wsX1_answersToStand : List Cond := .code yX1_answersToStand cX1_answersToStand 2 (some .int) :: ([.fieldLink RX1 15 "PointAnswers$Costs" "stand" "[I", .methodLink RX1 51 yX1_reachable, .static yX1_reachable, .initialized RX1, .code yX1_reachable cX1_reachable 1 (some .int)] ++ wsX10)
def wsX2_init : List Cond := .code yX2_init cX2_init 2 none :: ([.methodLink RX2 3 objectInit, .instanceMethod objectInit, .code objectInit ⟨#[0xb1]⟩ 1 none, .classLink RX2 9 RX0, .fieldLink RX2 11 "PointAnswers$History" "rows" "[LPointAnswers$Bundle;", .instantiable RX0 6, .initialized RX0, .instanceMethod yX0_init, .code yX0_init cX0_init 2 none, .methodLink RX0 3 objectInit, .classLink RX0 9 RX4, .fieldLink RX0 11 "PointAnswers$Bundle" "rows" "[LPointAnswers$Point;", .fieldLink RX0 17 "PointAnswers$Bundle" "lapse" "I", .fieldLink RX0 21 "PointAnswers$Bundle" "allowedPages" "I", .instantiable RX4 7, .initialized RX4, .instanceMethod yX4_init, .code yX4_init cX4_init 1 none, .methodLink RX4 1 objectInit] ++ wsX20 ++ wsX00 ++ wsX40)
def wsX2_rowAt : List Cond := .code yX2_rowAt cX2_rowAt 2 (some (.object "PointAnswers$Bundle")) :: ([.fieldLink RX2 11 "PointAnswers$History" "rows" "[LPointAnswers$Bundle;"] ++ wsX20)
def wsX2_prepare_r1 : List Cond := [Cond.fieldLink RX2 18 "PointAnswers$History" "kept" "I", Cond.methodLink RX2 22 yX2_rowAt, Cond.instanceMethod yX2_rowAt, Cond.selects RX2 yX2_rowAt yX2_rowAt, Cond.initialized RX2, Cond.code yX2_rowAt cX2_rowAt 2 (some (.object "PointAnswers$Bundle")), Cond.fieldLink RX2 11 "PointAnswers$History" "rows" "[LPointAnswers$Bundle;", Cond.instanceMethod yX0_become, Cond.initialized RX0, Cond.selects RX0 yX0_become yX0_become, Cond.code yX0_become cX0_become 5 none, Cond.fieldLink RX0 25 "PointAnswers$Bundle" "size" "I", Cond.fieldLink RX0 28 "PointAnswers$Bundle" "day" "I", Cond.fieldLink RX0 31 "PointAnswers$Bundle" "overruled" "I", Cond.fieldLink RX0 17 "PointAnswers$Bundle" "lapse" "I", Cond.fieldLink RX0 21 "PointAnswers$Bundle" "allowedPages" "I", Cond.fieldLink RX0 11 "PointAnswers$Bundle" "rows" "[LPointAnswers$Point;", Cond.methodLink RX0 34 yX0_find, Cond.instanceMethod yX0_find, Cond.selects RX0 yX0_find yX0_find, Cond.code yX0_find cX0_find 2 (some (.object "PointAnswers$Point")), Cond.instanceMethod yX4_become, Cond.initialized RX4, Cond.selects RX4 yX4_become yX4_become]
def wsX2_prepare_r2 : List Cond := [Cond.code yX4_become cX4_become 2 none, Cond.fieldLink RX4 7 "PointAnswers$Point" "side" "I", Cond.fieldLink RX4 13 "PointAnswers$Point" "pages" "I", Cond.fieldLink RX4 16 "PointAnswers$Point" "cases" "I", Cond.fieldLink RX4 19 "PointAnswers$Point" "target" "I", Cond.fieldLink RX4 22 "PointAnswers$Point" "filed" "I", Cond.fieldLink RX4 25 "PointAnswers$Point" "lastsFrom" "I", Cond.fieldLink RX4 28 "PointAnswers$Point" "withdrawn" "Z"]
def wsX2_prepare : List Cond := .code yX2_prepare cX2_prepare 3 none :: ((wsX2_prepare_r1 ++ wsX2_prepare_r2) ++ wsX20 ++ wsX00 ++ wsX40)
def wsX2_dropOldest : List Cond := .code yX2_dropOldest cX2_dropOldest 3 none :: ([.fieldLink RX2 11 "PointAnswers$History" "rows" "[LPointAnswers$Bundle;", .methodLink RX2 22 yX2_rowAt, .instanceMethod yX2_rowAt, .selects RX2 yX2_rowAt yX2_rowAt, .initialized RX2, .code yX2_rowAt cX2_rowAt 2 (some (.object "PointAnswers$Bundle"))] ++ wsX20)
def wsX2_settle : List Cond := .code yX2_settle cX2_settle 2 (some .int) :: ([.fieldLink RX2 18 "PointAnswers$History" "kept" "I", .methodLink RX2 30 yX2_dropOldest, .instanceMethod yX2_dropOldest, .selects RX2 yX2_dropOldest yX2_dropOldest, .initialized RX2, .code yX2_dropOldest cX2_dropOldest 3 none, .fieldLink RX2 11 "PointAnswers$History" "rows" "[LPointAnswers$Bundle;", .methodLink RX2 22 yX2_rowAt, .instanceMethod yX2_rowAt, .selects RX2 yX2_rowAt yX2_rowAt, .code yX2_rowAt cX2_rowAt 2 (some (.object "PointAnswers$Bundle"))] ++ wsX20)
def wsX2_bringBack_r1 : List Cond := [Cond.fieldLink RX2 18 "PointAnswers$History" "kept" "I", Cond.methodLink RX2 22 yX2_rowAt, Cond.instanceMethod yX2_rowAt, Cond.selects RX2 yX2_rowAt yX2_rowAt, Cond.initialized RX2, Cond.code yX2_rowAt cX2_rowAt 2 (some (.object "PointAnswers$Bundle")), Cond.fieldLink RX2 11 "PointAnswers$History" "rows" "[LPointAnswers$Bundle;", Cond.instanceMethod yX0_become, Cond.initialized RX0, Cond.selects RX0 yX0_become yX0_become, Cond.code yX0_become cX0_become 5 none, Cond.fieldLink RX0 25 "PointAnswers$Bundle" "size" "I", Cond.fieldLink RX0 28 "PointAnswers$Bundle" "day" "I", Cond.fieldLink RX0 31 "PointAnswers$Bundle" "overruled" "I", Cond.fieldLink RX0 17 "PointAnswers$Bundle" "lapse" "I", Cond.fieldLink RX0 21 "PointAnswers$Bundle" "allowedPages" "I", Cond.fieldLink RX0 11 "PointAnswers$Bundle" "rows" "[LPointAnswers$Point;", Cond.methodLink RX0 34 yX0_find, Cond.instanceMethod yX0_find, Cond.selects RX0 yX0_find yX0_find, Cond.code yX0_find cX0_find 2 (some (.object "PointAnswers$Point")), Cond.instanceMethod yX4_become, Cond.initialized RX4, Cond.selects RX4 yX4_become yX4_become]
def wsX2_bringBack_r2 : List Cond := [Cond.code yX4_become cX4_become 2 none, Cond.fieldLink RX4 7 "PointAnswers$Point" "side" "I", Cond.fieldLink RX4 13 "PointAnswers$Point" "pages" "I", Cond.fieldLink RX4 16 "PointAnswers$Point" "cases" "I", Cond.fieldLink RX4 19 "PointAnswers$Point" "target" "I", Cond.fieldLink RX4 22 "PointAnswers$Point" "filed" "I", Cond.fieldLink RX4 25 "PointAnswers$Point" "lastsFrom" "I", Cond.fieldLink RX4 28 "PointAnswers$Point" "withdrawn" "Z"]
def wsX2_bringBack : List Cond := .code yX2_bringBack cX2_bringBack 3 (some .int) :: ((wsX2_bringBack_r1 ++ wsX2_bringBack_r2) ++ wsX20 ++ wsX00 ++ wsX40)
def wsX3_init : List Cond := .code yX3_init cX3_init 1 none :: ([.methodLink RX3 3 objectInit, .instanceMethod objectInit, .code objectInit ⟨#[0xb1]⟩ 1 none, .arrayClass .char, .fieldLink RX3 9 "PointAnswers$Pad" "signs" "[C"] ++ wsX30)
def wsX3_empty : List Cond := .code yX3_empty cX3_empty 2 (some .int) :: ([.fieldLink RX3 15 "PointAnswers$Pad" "length" "I"] ++ wsX30)
def wsX3_signOf : List Cond := .code yX3_signOf cX3_signOf 3 (some .char) :: ([.constantLong RX3 23 (255)])
def wsX3_signsIn : List Cond := .code yX3_signsIn cX3_signsIn 4 (some .int) :: ([.methodLink RX3 19 yX3_signOf, .static yX3_signOf, .initialized RX3, .code yX3_signOf cX3_signOf 3 (some .char), .constantLong RX3 23 (255)])
def wsX3_append : List Cond := .code yX3_append cX3_append 2 none :: ([.fieldLink RX3 15 "PointAnswers$Pad" "length" "I", .fieldLink RX3 9 "PointAnswers$Pad" "signs" "[C"] ++ wsX30)
def wsX3_signAt : List Cond := .code yX3_signAt cX3_signAt 2 (some .char) :: ([.fieldLink RX3 15 "PointAnswers$Pad" "length" "I", .fieldLink RX3 9 "PointAnswers$Pad" "signs" "[C"] ++ wsX30)
def wsX5_init : List Cond := .code yX5_init cX5_init 1 none :: ([.methodLink RX5 3 objectInit, .instanceMethod objectInit, .code objectInit ⟨#[0xb1]⟩ 1 none])
def wsX5_rewind : List Cond := .code yX5_rewind cX5_rewind 1 none :: ([.fieldLink RX5 9 "PointAnswers$Reader" "at" "I"] ++ wsX50)
def wsX5_takeDigit : List Cond := .code yX5_takeDigit cX5_takeDigit 5 (some .boolean) :: ([.fieldLink RX5 9 "PointAnswers$Reader" "at" "I", .fieldLink RX5 49 "PointAnswers$Reader" "digit" "I", .instanceMethod yX3_signAt, .initialized RX3, .selects RX3 yX3_signAt yX3_signAt, .code yX3_signAt cX3_signAt 2 (some .char), .fieldLink RX3 15 "PointAnswers$Pad" "length" "I", .fieldLink RX3 9 "PointAnswers$Pad" "signs" "[C"] ++ wsX50 ++ wsX30)
def wsX5_readDigit : List Cond := .code yX5_readDigit cX5_readDigit 4 (some .boolean) :: ([.fieldLink RX5 49 "PointAnswers$Reader" "digit" "I", .fieldLink RX5 55 "PointAnswers$Reader" "number" "I", .methodLink RX5 52 yX5_takeDigit, .instanceMethod yX5_takeDigit, .selects RX5 yX5_takeDigit yX5_takeDigit, .initialized RX5, .code yX5_takeDigit cX5_takeDigit 5 (some .boolean), .fieldLink RX5 9 "PointAnswers$Reader" "at" "I", .instanceMethod yX3_signAt, .initialized RX3, .selects RX3 yX3_signAt yX3_signAt, .code yX3_signAt cX3_signAt 2 (some .char), .fieldLink RX3 15 "PointAnswers$Pad" "length" "I", .fieldLink RX3 9 "PointAnswers$Pad" "signs" "[C"] ++ wsX50 ++ wsX30)
def wsX5_take : List Cond := .code yX5_take cX5_take 3 (some .boolean) :: ([.fieldLink RX5 9 "PointAnswers$Reader" "at" "I", .instanceMethod yX3_signAt, .initialized RX3, .selects RX3 yX3_signAt yX3_signAt, .code yX3_signAt cX3_signAt 2 (some .char), .fieldLink RX3 15 "PointAnswers$Pad" "length" "I", .fieldLink RX3 9 "PointAnswers$Pad" "signs" "[C"] ++ wsX50 ++ wsX30)
def wsX5_readCites : List Cond := .code yX5_readCites cX5_readCites 3 (some .boolean) :: ([.fieldLink RX5 64 "PointAnswers$Reader" "cases" "I", .fieldLink RX5 49 "PointAnswers$Reader" "digit" "I", .methodLink RX5 27 yX5_take, .instanceMethod yX5_take, .selects RX5 yX5_take yX5_take, .initialized RX5, .code yX5_take cX5_take 3 (some .boolean), .fieldLink RX5 9 "PointAnswers$Reader" "at" "I", .instanceMethod yX3_signAt, .initialized RX3, .selects RX3 yX3_signAt yX3_signAt, .code yX3_signAt cX3_signAt 2 (some .char), .fieldLink RX3 15 "PointAnswers$Pad" "length" "I", .fieldLink RX3 9 "PointAnswers$Pad" "signs" "[C", .methodLink RX5 52 yX5_takeDigit, .instanceMethod yX5_takeDigit, .selects RX5 yX5_takeDigit yX5_takeDigit, .code yX5_takeDigit cX5_takeDigit 5 (some .boolean)] ++ wsX50 ++ wsX30)
def wsX5_readPaper : List Cond := .code yX5_readPaper cX5_readPaper 2 (some .boolean) :: ([.fieldLink RX5 49 "PointAnswers$Reader" "digit" "I", .fieldLink RX5 58 "PointAnswers$Reader" "pages" "I", .methodLink RX5 27 yX5_take, .instanceMethod yX5_take, .selects RX5 yX5_take yX5_take, .initialized RX5, .code yX5_take cX5_take 3 (some .boolean), .fieldLink RX5 9 "PointAnswers$Reader" "at" "I", .instanceMethod yX3_signAt, .initialized RX3, .selects RX3 yX3_signAt yX3_signAt, .code yX3_signAt cX3_signAt 2 (some .char), .fieldLink RX3 15 "PointAnswers$Pad" "length" "I", .fieldLink RX3 9 "PointAnswers$Pad" "signs" "[C", .methodLink RX5 52 yX5_takeDigit, .instanceMethod yX5_takeDigit, .selects RX5 yX5_takeDigit yX5_takeDigit, .code yX5_takeDigit cX5_takeDigit 5 (some .boolean), .methodLink RX5 61 yX5_readCites, .instanceMethod yX5_readCites, .selects RX5 yX5_readCites yX5_readCites, .code yX5_readCites cX5_readCites 3 (some .boolean), .fieldLink RX5 64 "PointAnswers$Reader" "cases" "I"] ++ wsX50 ++ wsX30)
def wsX5_readNumber : List Cond := .code yX5_readNumber cX5_readNumber 2 (some .boolean) :: ([.fieldLink RX5 55 "PointAnswers$Reader" "number" "I", .fieldLink RX5 49 "PointAnswers$Reader" "digit" "I", .methodLink RX5 39 yX5_readDigit, .instanceMethod yX5_readDigit, .selects RX5 yX5_readDigit yX5_readDigit, .initialized RX5, .code yX5_readDigit cX5_readDigit 4 (some .boolean), .methodLink RX5 52 yX5_takeDigit, .instanceMethod yX5_takeDigit, .selects RX5 yX5_takeDigit yX5_takeDigit, .code yX5_takeDigit cX5_takeDigit 5 (some .boolean), .fieldLink RX5 9 "PointAnswers$Reader" "at" "I", .instanceMethod yX3_signAt, .initialized RX3, .selects RX3 yX3_signAt yX3_signAt, .code yX3_signAt cX3_signAt 2 (some .char), .fieldLink RX3 15 "PointAnswers$Pad" "length" "I", .fieldLink RX3 9 "PointAnswers$Pad" "signs" "[C"] ++ wsX50 ++ wsX30)
def wsX5_readOrder_r1 : List Cond := [Cond.fieldLink RX5 9 "PointAnswers$Reader" "at" "I", Cond.fieldLink RX5 35 "PointAnswers$Reader" "kind" "C", Cond.instanceMethod yX3_signAt, Cond.initialized RX3, Cond.selects RX3 yX3_signAt yX3_signAt, Cond.code yX3_signAt cX3_signAt 2 (some .char), Cond.fieldLink RX3 15 "PointAnswers$Pad" "length" "I", Cond.fieldLink RX3 9 "PointAnswers$Pad" "signs" "[C", Cond.methodLink RX5 39 yX5_readDigit, Cond.instanceMethod yX5_readDigit, Cond.selects RX5 yX5_readDigit yX5_readDigit, Cond.initialized RX5, Cond.code yX5_readDigit cX5_readDigit 4 (some .boolean), Cond.fieldLink RX5 49 "PointAnswers$Reader" "digit" "I", Cond.fieldLink RX5 55 "PointAnswers$Reader" "number" "I", Cond.methodLink RX5 52 yX5_takeDigit, Cond.instanceMethod yX5_takeDigit, Cond.selects RX5 yX5_takeDigit yX5_takeDigit, Cond.code yX5_takeDigit cX5_takeDigit 5 (some .boolean), Cond.methodLink RX5 43 yX5_readPaper, Cond.instanceMethod yX5_readPaper, Cond.selects RX5 yX5_readPaper yX5_readPaper, Cond.code yX5_readPaper cX5_readPaper 2 (some .boolean), Cond.fieldLink RX5 58 "PointAnswers$Reader" "pages" "I"]
def wsX5_readOrder_r2 : List Cond := [Cond.methodLink RX5 27 yX5_take, Cond.instanceMethod yX5_take, Cond.selects RX5 yX5_take yX5_take, Cond.code yX5_take cX5_take 3 (some .boolean), Cond.methodLink RX5 61 yX5_readCites, Cond.instanceMethod yX5_readCites, Cond.selects RX5 yX5_readCites yX5_readCites, Cond.code yX5_readCites cX5_readCites 3 (some .boolean), Cond.fieldLink RX5 64 "PointAnswers$Reader" "cases" "I", Cond.methodLink RX5 46 yX5_readNumber, Cond.instanceMethod yX5_readNumber, Cond.selects RX5 yX5_readNumber yX5_readNumber, Cond.code yX5_readNumber cX5_readNumber 2 (some .boolean)]
def wsX5_readOrder : List Cond := .code yX5_readOrder cX5_readOrder 2 (some .boolean) :: ((wsX5_readOrder_r1 ++ wsX5_readOrder_r2) ++ wsX50 ++ wsX30)
def wsX5_firstFault_r1 : List Cond := [Cond.fieldLink RX5 9 "PointAnswers$Reader" "at" "I", Cond.methodLink RX5 15 yX5_rewind, Cond.instanceMethod yX5_rewind, Cond.selects RX5 yX5_rewind yX5_rewind, Cond.initialized RX5, Cond.code yX5_rewind cX5_rewind 1 none, Cond.methodLink RX5 18 yX5_readOrder, Cond.instanceMethod yX5_readOrder, Cond.selects RX5 yX5_readOrder yX5_readOrder, Cond.code yX5_readOrder cX5_readOrder 2 (some .boolean), Cond.fieldLink RX5 35 "PointAnswers$Reader" "kind" "C", Cond.instanceMethod yX3_signAt, Cond.initialized RX3, Cond.selects RX3 yX3_signAt yX3_signAt, Cond.code yX3_signAt cX3_signAt 2 (some .char), Cond.fieldLink RX3 15 "PointAnswers$Pad" "length" "I", Cond.fieldLink RX3 9 "PointAnswers$Pad" "signs" "[C", Cond.methodLink RX5 39 yX5_readDigit, Cond.instanceMethod yX5_readDigit, Cond.selects RX5 yX5_readDigit yX5_readDigit, Cond.code yX5_readDigit cX5_readDigit 4 (some .boolean), Cond.fieldLink RX5 49 "PointAnswers$Reader" "digit" "I", Cond.fieldLink RX5 55 "PointAnswers$Reader" "number" "I", Cond.methodLink RX5 52 yX5_takeDigit]
def wsX5_firstFault_r2 : List Cond := [Cond.instanceMethod yX5_takeDigit, Cond.selects RX5 yX5_takeDigit yX5_takeDigit, Cond.code yX5_takeDigit cX5_takeDigit 5 (some .boolean), Cond.methodLink RX5 43 yX5_readPaper, Cond.instanceMethod yX5_readPaper, Cond.selects RX5 yX5_readPaper yX5_readPaper, Cond.code yX5_readPaper cX5_readPaper 2 (some .boolean), Cond.fieldLink RX5 58 "PointAnswers$Reader" "pages" "I", Cond.methodLink RX5 27 yX5_take, Cond.instanceMethod yX5_take, Cond.selects RX5 yX5_take yX5_take, Cond.code yX5_take cX5_take 3 (some .boolean), Cond.methodLink RX5 61 yX5_readCites, Cond.instanceMethod yX5_readCites, Cond.selects RX5 yX5_readCites yX5_readCites, Cond.code yX5_readCites cX5_readCites 3 (some .boolean), Cond.fieldLink RX5 64 "PointAnswers$Reader" "cases" "I", Cond.methodLink RX5 46 yX5_readNumber, Cond.instanceMethod yX5_readNumber, Cond.selects RX5 yX5_readNumber yX5_readNumber, Cond.code yX5_readNumber cX5_readNumber 2 (some .boolean)]
def wsX5_firstFault : List Cond := .code yX5_firstFault cX5_firstFault 3 (some .int) :: ((wsX5_firstFault_r1 ++ wsX5_firstFault_r2) ++ wsX50 ++ wsX30)
def wsX6_init_r1 : List Cond := [Cond.methodLink RX6 3 objectInit, Cond.instanceMethod objectInit, Cond.code objectInit ⟨#[0xb1]⟩ 1 none, Cond.classLink RX6 9 RX0, Cond.instantiable RX0 6, Cond.initialized RX0, Cond.fieldLink RX6 12 "PointAnswers" "now" "LPointAnswers$Bundle;", Cond.classLink RX6 16 RX1, Cond.instantiable RX1 2, Cond.initialized RX1, Cond.fieldLink RX6 19 "PointAnswers" "costs" "LPointAnswers$Costs;", Cond.classLink RX6 23 RX3, Cond.instantiable RX3 2, Cond.initialized RX3, Cond.fieldLink RX6 26 "PointAnswers" "pad" "LPointAnswers$Pad;", Cond.classLink RX6 30 RX5, Cond.instantiable RX5 6, Cond.initialized RX5, Cond.fieldLink RX6 33 "PointAnswers" "reader" "LPointAnswers$Reader;", Cond.classLink RX6 37 RX2, Cond.instantiable RX2 2, Cond.initialized RX2, Cond.fieldLink RX6 40 "PointAnswers" "history" "LPointAnswers$History;", Cond.fieldLink RX6 44 "PointAnswers" "slots" "[LPointAnswers$Bundle;"]
def wsX6_init_r2 : List Cond := [Cond.instanceMethod yX0_init, Cond.code yX0_init cX0_init 2 none, Cond.methodLink RX0 3 objectInit, Cond.classLink RX0 9 RX4, Cond.fieldLink RX0 11 "PointAnswers$Bundle" "rows" "[LPointAnswers$Point;", Cond.fieldLink RX0 17 "PointAnswers$Bundle" "lapse" "I", Cond.fieldLink RX0 21 "PointAnswers$Bundle" "allowedPages" "I", Cond.instantiable RX4 7, Cond.initialized RX4, Cond.instanceMethod yX4_init, Cond.code yX4_init cX4_init 1 none, Cond.methodLink RX4 1 objectInit, Cond.instanceMethod yX1_init, Cond.code yX1_init cX1_init 1 none, Cond.methodLink RX1 3 objectInit, Cond.arrayClass .int, Cond.fieldLink RX1 9 "PointAnswers$Costs" "fall" "[I", Cond.fieldLink RX1 15 "PointAnswers$Costs" "stand" "[I", Cond.instanceMethod yX3_init, Cond.code yX3_init cX3_init 1 none, Cond.methodLink RX3 3 objectInit, Cond.arrayClass .char, Cond.fieldLink RX3 9 "PointAnswers$Pad" "signs" "[C", Cond.instanceMethod yX5_init]
def wsX6_init_r3 : List Cond := [Cond.code yX5_init cX5_init 1 none, Cond.methodLink RX5 3 objectInit, Cond.instanceMethod yX2_init, Cond.code yX2_init cX2_init 2 none, Cond.methodLink RX2 3 objectInit, Cond.classLink RX2 9 RX0, Cond.fieldLink RX2 11 "PointAnswers$History" "rows" "[LPointAnswers$Bundle;"]
def wsX6_init : List Cond := .code yX6_init cX6_init 2 none :: ((wsX6_init_r1 ++ (wsX6_init_r2 ++ wsX6_init_r3)) ++ wsX00 ++ wsX60 ++ wsX10 ++ wsX30 ++ wsX50 ++ wsX20 ++ wsX40)
def wsX6_set_r1 : List Cond := [Cond.fieldLink RX6 40 "PointAnswers" "history" "LPointAnswers$History;", Cond.fieldLink RX6 12 "PointAnswers" "now" "LPointAnswers$Bundle;", Cond.instanceMethod yX2_prepare, Cond.initialized RX2, Cond.selects RX2 yX2_prepare yX2_prepare, Cond.code yX2_prepare cX2_prepare 3 none, Cond.fieldLink RX2 18 "PointAnswers$History" "kept" "I", Cond.methodLink RX2 22 yX2_rowAt, Cond.instanceMethod yX2_rowAt, Cond.selects RX2 yX2_rowAt yX2_rowAt, Cond.code yX2_rowAt cX2_rowAt 2 (some (.object "PointAnswers$Bundle")), Cond.fieldLink RX2 11 "PointAnswers$History" "rows" "[LPointAnswers$Bundle;", Cond.instanceMethod yX0_become, Cond.initialized RX0, Cond.selects RX0 yX0_become yX0_become, Cond.code yX0_become cX0_become 5 none, Cond.fieldLink RX0 25 "PointAnswers$Bundle" "size" "I", Cond.fieldLink RX0 28 "PointAnswers$Bundle" "day" "I", Cond.fieldLink RX0 31 "PointAnswers$Bundle" "overruled" "I", Cond.fieldLink RX0 17 "PointAnswers$Bundle" "lapse" "I", Cond.fieldLink RX0 21 "PointAnswers$Bundle" "allowedPages" "I", Cond.fieldLink RX0 11 "PointAnswers$Bundle" "rows" "[LPointAnswers$Point;", Cond.methodLink RX0 34 yX0_find, Cond.instanceMethod yX0_find]
def wsX6_set_r2 : List Cond := [Cond.selects RX0 yX0_find yX0_find, Cond.code yX0_find cX0_find 2 (some (.object "PointAnswers$Point")), Cond.instanceMethod yX4_become, Cond.initialized RX4, Cond.selects RX4 yX4_become yX4_become, Cond.code yX4_become cX4_become 2 none, Cond.fieldLink RX4 7 "PointAnswers$Point" "side" "I", Cond.fieldLink RX4 13 "PointAnswers$Point" "pages" "I", Cond.fieldLink RX4 16 "PointAnswers$Point" "cases" "I", Cond.fieldLink RX4 19 "PointAnswers$Point" "target" "I", Cond.fieldLink RX4 22 "PointAnswers$Point" "filed" "I", Cond.fieldLink RX4 25 "PointAnswers$Point" "lastsFrom" "I", Cond.fieldLink RX4 28 "PointAnswers$Point" "withdrawn" "Z", Cond.instanceMethod yX0_adjust, Cond.selects RX0 yX0_adjust yX0_adjust, Cond.code yX0_adjust cX0_adjust 4 (some .int), Cond.instanceMethod yX2_settle, Cond.selects RX2 yX2_settle yX2_settle, Cond.code yX2_settle cX2_settle 2 (some .int), Cond.methodLink RX2 30 yX2_dropOldest, Cond.instanceMethod yX2_dropOldest, Cond.selects RX2 yX2_dropOldest yX2_dropOldest, Cond.code yX2_dropOldest cX2_dropOldest 3 none]
def wsX6_set : List Cond := .code yX6_set cX6_set 3 (some .int) :: ((wsX6_set_r1 ++ wsX6_set_r2) ++ wsX60 ++ wsX20 ++ wsX00 ++ wsX40)
def wsX6_claim_r1 : List Cond := [Cond.fieldLink RX6 40 "PointAnswers" "history" "LPointAnswers$History;", Cond.fieldLink RX6 12 "PointAnswers" "now" "LPointAnswers$Bundle;", Cond.instanceMethod yX2_prepare, Cond.initialized RX2, Cond.selects RX2 yX2_prepare yX2_prepare, Cond.code yX2_prepare cX2_prepare 3 none, Cond.fieldLink RX2 18 "PointAnswers$History" "kept" "I", Cond.methodLink RX2 22 yX2_rowAt, Cond.instanceMethod yX2_rowAt, Cond.selects RX2 yX2_rowAt yX2_rowAt, Cond.code yX2_rowAt cX2_rowAt 2 (some (.object "PointAnswers$Bundle")), Cond.fieldLink RX2 11 "PointAnswers$History" "rows" "[LPointAnswers$Bundle;", Cond.instanceMethod yX0_become, Cond.initialized RX0, Cond.selects RX0 yX0_become yX0_become, Cond.code yX0_become cX0_become 5 none, Cond.fieldLink RX0 25 "PointAnswers$Bundle" "size" "I", Cond.fieldLink RX0 28 "PointAnswers$Bundle" "day" "I", Cond.fieldLink RX0 31 "PointAnswers$Bundle" "overruled" "I", Cond.fieldLink RX0 17 "PointAnswers$Bundle" "lapse" "I", Cond.fieldLink RX0 21 "PointAnswers$Bundle" "allowedPages" "I", Cond.fieldLink RX0 11 "PointAnswers$Bundle" "rows" "[LPointAnswers$Point;", Cond.methodLink RX0 34 yX0_find, Cond.instanceMethod yX0_find]
def wsX6_claim_r2 : List Cond := [Cond.selects RX0 yX0_find yX0_find, Cond.code yX0_find cX0_find 2 (some (.object "PointAnswers$Point")), Cond.instanceMethod yX4_become, Cond.initialized RX4, Cond.selects RX4 yX4_become yX4_become, Cond.code yX4_become cX4_become 2 none, Cond.fieldLink RX4 7 "PointAnswers$Point" "side" "I", Cond.fieldLink RX4 13 "PointAnswers$Point" "pages" "I", Cond.fieldLink RX4 16 "PointAnswers$Point" "cases" "I", Cond.fieldLink RX4 19 "PointAnswers$Point" "target" "I", Cond.fieldLink RX4 22 "PointAnswers$Point" "filed" "I", Cond.fieldLink RX4 25 "PointAnswers$Point" "lastsFrom" "I", Cond.fieldLink RX4 28 "PointAnswers$Point" "withdrawn" "Z", Cond.instanceMethod yX0_fileClaim, Cond.selects RX0 yX0_fileClaim yX0_fileClaim, Cond.code yX0_fileClaim cX0_fileClaim 4 (some .int), Cond.methodLink RX0 42 yX0_canBeFiled, Cond.static yX0_canBeFiled, Cond.code yX0_canBeFiled cX0_canBeFiled 2 (some .boolean), Cond.methodLink RX0 46 yX0_file, Cond.instanceMethod yX0_file, Cond.selects RX0 yX0_file yX0_file, Cond.code yX0_file cX0_file 6 (some .int), Cond.methodLink RX0 50 yX0_freeRow]
def wsX6_claim_r3 : List Cond := [Cond.instanceMethod yX0_freeRow, Cond.selects RX0 yX0_freeRow yX0_freeRow, Cond.code yX0_freeRow cX0_freeRow 1 (some (.object "PointAnswers$Point")), Cond.instanceMethod yX2_settle, Cond.selects RX2 yX2_settle yX2_settle, Cond.code yX2_settle cX2_settle 2 (some .int), Cond.methodLink RX2 30 yX2_dropOldest, Cond.instanceMethod yX2_dropOldest, Cond.selects RX2 yX2_dropOldest yX2_dropOldest, Cond.code yX2_dropOldest cX2_dropOldest 3 none]
def wsX6_claim : List Cond := .code yX6_claim cX6_claim 4 (some .int) :: ((wsX6_claim_r1 ++ (wsX6_claim_r2 ++ wsX6_claim_r3)) ++ wsX60 ++ wsX20 ++ wsX00 ++ wsX40)
def wsX6_answer_r1 : List Cond := [Cond.fieldLink RX6 40 "PointAnswers" "history" "LPointAnswers$History;", Cond.fieldLink RX6 12 "PointAnswers" "now" "LPointAnswers$Bundle;", Cond.instanceMethod yX2_prepare, Cond.initialized RX2, Cond.selects RX2 yX2_prepare yX2_prepare, Cond.code yX2_prepare cX2_prepare 3 none, Cond.fieldLink RX2 18 "PointAnswers$History" "kept" "I", Cond.methodLink RX2 22 yX2_rowAt, Cond.instanceMethod yX2_rowAt, Cond.selects RX2 yX2_rowAt yX2_rowAt, Cond.code yX2_rowAt cX2_rowAt 2 (some (.object "PointAnswers$Bundle")), Cond.fieldLink RX2 11 "PointAnswers$History" "rows" "[LPointAnswers$Bundle;", Cond.instanceMethod yX0_become, Cond.initialized RX0, Cond.selects RX0 yX0_become yX0_become, Cond.code yX0_become cX0_become 5 none, Cond.fieldLink RX0 25 "PointAnswers$Bundle" "size" "I", Cond.fieldLink RX0 28 "PointAnswers$Bundle" "day" "I", Cond.fieldLink RX0 31 "PointAnswers$Bundle" "overruled" "I", Cond.fieldLink RX0 17 "PointAnswers$Bundle" "lapse" "I", Cond.fieldLink RX0 21 "PointAnswers$Bundle" "allowedPages" "I", Cond.fieldLink RX0 11 "PointAnswers$Bundle" "rows" "[LPointAnswers$Point;", Cond.methodLink RX0 34 yX0_find, Cond.instanceMethod yX0_find]
def wsX6_answer_r2 : List Cond := [Cond.selects RX0 yX0_find yX0_find, Cond.code yX0_find cX0_find 2 (some (.object "PointAnswers$Point")), Cond.instanceMethod yX4_become, Cond.initialized RX4, Cond.selects RX4 yX4_become yX4_become, Cond.code yX4_become cX4_become 2 none, Cond.fieldLink RX4 7 "PointAnswers$Point" "side" "I", Cond.fieldLink RX4 13 "PointAnswers$Point" "pages" "I", Cond.fieldLink RX4 16 "PointAnswers$Point" "cases" "I", Cond.fieldLink RX4 19 "PointAnswers$Point" "target" "I", Cond.fieldLink RX4 22 "PointAnswers$Point" "filed" "I", Cond.fieldLink RX4 25 "PointAnswers$Point" "lastsFrom" "I", Cond.fieldLink RX4 28 "PointAnswers$Point" "withdrawn" "Z", Cond.instanceMethod yX0_fileAnswer, Cond.selects RX0 yX0_fileAnswer yX0_fileAnswer, Cond.code yX0_fileAnswer cX0_fileAnswer 5 (some .int), Cond.methodLink RX0 42 yX0_canBeFiled, Cond.static yX0_canBeFiled, Cond.code yX0_canBeFiled cX0_canBeFiled 2 (some .boolean), Cond.methodLink RX0 50 yX0_freeRow, Cond.instanceMethod yX0_freeRow, Cond.selects RX0 yX0_freeRow yX0_freeRow, Cond.code yX0_freeRow cX0_freeRow 1 (some (.object "PointAnswers$Point")), Cond.methodLink RX0 46 yX0_file]
def wsX6_answer_r3 : List Cond := [Cond.instanceMethod yX0_file, Cond.selects RX0 yX0_file yX0_file, Cond.code yX0_file cX0_file 6 (some .int), Cond.instanceMethod yX2_settle, Cond.selects RX2 yX2_settle yX2_settle, Cond.code yX2_settle cX2_settle 2 (some .int), Cond.methodLink RX2 30 yX2_dropOldest, Cond.instanceMethod yX2_dropOldest, Cond.selects RX2 yX2_dropOldest yX2_dropOldest, Cond.code yX2_dropOldest cX2_dropOldest 3 none]
def wsX6_answer : List Cond := .code yX6_answer cX6_answer 4 (some .int) :: ((wsX6_answer_r1 ++ (wsX6_answer_r2 ++ wsX6_answer_r3)) ++ wsX60 ++ wsX20 ++ wsX00 ++ wsX40)
def wsX6_withdraw_r1 : List Cond := [Cond.fieldLink RX6 40 "PointAnswers" "history" "LPointAnswers$History;", Cond.fieldLink RX6 12 "PointAnswers" "now" "LPointAnswers$Bundle;", Cond.instanceMethod yX2_prepare, Cond.initialized RX2, Cond.selects RX2 yX2_prepare yX2_prepare, Cond.code yX2_prepare cX2_prepare 3 none, Cond.fieldLink RX2 18 "PointAnswers$History" "kept" "I", Cond.methodLink RX2 22 yX2_rowAt, Cond.instanceMethod yX2_rowAt, Cond.selects RX2 yX2_rowAt yX2_rowAt, Cond.code yX2_rowAt cX2_rowAt 2 (some (.object "PointAnswers$Bundle")), Cond.fieldLink RX2 11 "PointAnswers$History" "rows" "[LPointAnswers$Bundle;", Cond.instanceMethod yX0_become, Cond.initialized RX0, Cond.selects RX0 yX0_become yX0_become, Cond.code yX0_become cX0_become 5 none, Cond.fieldLink RX0 25 "PointAnswers$Bundle" "size" "I", Cond.fieldLink RX0 28 "PointAnswers$Bundle" "day" "I", Cond.fieldLink RX0 31 "PointAnswers$Bundle" "overruled" "I", Cond.fieldLink RX0 17 "PointAnswers$Bundle" "lapse" "I", Cond.fieldLink RX0 21 "PointAnswers$Bundle" "allowedPages" "I", Cond.fieldLink RX0 11 "PointAnswers$Bundle" "rows" "[LPointAnswers$Point;", Cond.methodLink RX0 34 yX0_find, Cond.instanceMethod yX0_find]
def wsX6_withdraw_r2 : List Cond := [Cond.selects RX0 yX0_find yX0_find, Cond.code yX0_find cX0_find 2 (some (.object "PointAnswers$Point")), Cond.instanceMethod yX4_become, Cond.initialized RX4, Cond.selects RX4 yX4_become yX4_become, Cond.code yX4_become cX4_become 2 none, Cond.fieldLink RX4 7 "PointAnswers$Point" "side" "I", Cond.fieldLink RX4 13 "PointAnswers$Point" "pages" "I", Cond.fieldLink RX4 16 "PointAnswers$Point" "cases" "I", Cond.fieldLink RX4 19 "PointAnswers$Point" "target" "I", Cond.fieldLink RX4 22 "PointAnswers$Point" "filed" "I", Cond.fieldLink RX4 25 "PointAnswers$Point" "lastsFrom" "I", Cond.fieldLink RX4 28 "PointAnswers$Point" "withdrawn" "Z", Cond.instanceMethod yX0_takeBack, Cond.selects RX0 yX0_takeBack yX0_takeBack, Cond.code yX0_takeBack cX0_takeBack 3 (some .int), Cond.methodLink RX0 76 yX0_standing, Cond.instanceMethod yX0_standing, Cond.selects RX0 yX0_standing yX0_standing, Cond.code yX0_standing cX0_standing 1 (some .int), Cond.methodLink RX0 109 yX0_out, Cond.instanceMethod yX0_out, Cond.selects RX0 yX0_out yX0_out, Cond.code yX0_out cX0_out 1 (some .int)]
def wsX6_withdraw_r3 : List Cond := [Cond.methodLink RX0 98 yX0_withdrawn, Cond.instanceMethod yX0_withdrawn, Cond.selects RX0 yX0_withdrawn yX0_withdrawn, Cond.code yX0_withdrawn cX0_withdrawn 4 (some .int), Cond.methodLink RX0 100 yX0_struck, Cond.instanceMethod yX0_struck, Cond.selects RX0 yX0_struck yX0_struck, Cond.code yX0_struck cX0_struck 6 (some .int), Cond.methodLink RX0 103 yX0_lapsedOn, Cond.instanceMethod yX0_lapsedOn, Cond.selects RX0 yX0_lapsedOn yX0_lapsedOn, Cond.code yX0_lapsedOn cX0_lapsedOn 5 (some .int), Cond.methodLink RX0 106 yX0_baseless, Cond.instanceMethod yX0_baseless, Cond.selects RX0 yX0_baseless yX0_baseless, Cond.code yX0_baseless cX0_baseless 4 (some .int), Cond.methodLink RX0 112 yX0_standingIf, Cond.instanceMethod yX0_standingIf, Cond.selects RX0 yX0_standingIf yX0_standingIf, Cond.code yX0_standingIf cX0_standingIf 6 (some .int), Cond.static yX6_has, Cond.initialized RX6, Cond.code yX6_has cX6_has 2 (some .boolean), Cond.methodLink RX0 95 yX0_targetOf]
def wsX6_withdraw_r4 : List Cond := [Cond.instanceMethod yX0_targetOf, Cond.selects RX0 yX0_targetOf yX0_targetOf, Cond.code yX0_targetOf cX0_targetOf 3 (some .int), Cond.methodLink RX0 80 yJ6_bitCount_0f7a4, Cond.static yJ6_bitCount_0f7a4, Cond.initialized RJ6, Cond.code yJ6_bitCount_0f7a4 cJ6_bitCount_0f7a4 1 (some .int), Cond.constant RJ6 265 (1431655765), Cond.constant RJ6 266 (858993459), Cond.constant RJ6 267 (252645135), Cond.instanceMethod yX2_settle, Cond.selects RX2 yX2_settle yX2_settle, Cond.code yX2_settle cX2_settle 2 (some .int), Cond.methodLink RX2 30 yX2_dropOldest, Cond.instanceMethod yX2_dropOldest, Cond.selects RX2 yX2_dropOldest yX2_dropOldest, Cond.code yX2_dropOldest cX2_dropOldest 3 none]
def wsX6_withdraw : List Cond := .code yX6_withdraw cX6_withdraw 2 (some .int) :: ((wsX6_withdraw_r1 ++ (wsX6_withdraw_r2 ++ (wsX6_withdraw_r3 ++ wsX6_withdraw_r4))) ++ wsX60 ++ wsX20 ++ wsX00 ++ wsX40)
def wsX6_renew_r1 : List Cond := [Cond.fieldLink RX6 40 "PointAnswers" "history" "LPointAnswers$History;", Cond.fieldLink RX6 12 "PointAnswers" "now" "LPointAnswers$Bundle;", Cond.instanceMethod yX2_prepare, Cond.initialized RX2, Cond.selects RX2 yX2_prepare yX2_prepare, Cond.code yX2_prepare cX2_prepare 3 none, Cond.fieldLink RX2 18 "PointAnswers$History" "kept" "I", Cond.methodLink RX2 22 yX2_rowAt, Cond.instanceMethod yX2_rowAt, Cond.selects RX2 yX2_rowAt yX2_rowAt, Cond.code yX2_rowAt cX2_rowAt 2 (some (.object "PointAnswers$Bundle")), Cond.fieldLink RX2 11 "PointAnswers$History" "rows" "[LPointAnswers$Bundle;", Cond.instanceMethod yX0_become, Cond.initialized RX0, Cond.selects RX0 yX0_become yX0_become, Cond.code yX0_become cX0_become 5 none, Cond.fieldLink RX0 25 "PointAnswers$Bundle" "size" "I", Cond.fieldLink RX0 28 "PointAnswers$Bundle" "day" "I", Cond.fieldLink RX0 31 "PointAnswers$Bundle" "overruled" "I", Cond.fieldLink RX0 17 "PointAnswers$Bundle" "lapse" "I", Cond.fieldLink RX0 21 "PointAnswers$Bundle" "allowedPages" "I", Cond.fieldLink RX0 11 "PointAnswers$Bundle" "rows" "[LPointAnswers$Point;", Cond.methodLink RX0 34 yX0_find, Cond.instanceMethod yX0_find]
def wsX6_renew_r2 : List Cond := [Cond.selects RX0 yX0_find yX0_find, Cond.code yX0_find cX0_find 2 (some (.object "PointAnswers$Point")), Cond.instanceMethod yX4_become, Cond.initialized RX4, Cond.selects RX4 yX4_become yX4_become, Cond.code yX4_become cX4_become 2 none, Cond.fieldLink RX4 7 "PointAnswers$Point" "side" "I", Cond.fieldLink RX4 13 "PointAnswers$Point" "pages" "I", Cond.fieldLink RX4 16 "PointAnswers$Point" "cases" "I", Cond.fieldLink RX4 19 "PointAnswers$Point" "target" "I", Cond.fieldLink RX4 22 "PointAnswers$Point" "filed" "I", Cond.fieldLink RX4 25 "PointAnswers$Point" "lastsFrom" "I", Cond.fieldLink RX4 28 "PointAnswers$Point" "withdrawn" "Z", Cond.instanceMethod yX0_prolong, Cond.selects RX0 yX0_prolong yX0_prolong, Cond.code yX0_prolong cX0_prolong 4 (some .int), Cond.instanceMethod yX2_settle, Cond.selects RX2 yX2_settle yX2_settle, Cond.code yX2_settle cX2_settle 2 (some .int), Cond.methodLink RX2 30 yX2_dropOldest, Cond.instanceMethod yX2_dropOldest, Cond.selects RX2 yX2_dropOldest yX2_dropOldest, Cond.code yX2_dropOldest cX2_dropOldest 3 none]
def wsX6_renew : List Cond := .code yX6_renew cX6_renew 2 (some .int) :: ((wsX6_renew_r1 ++ wsX6_renew_r2) ++ wsX60 ++ wsX20 ++ wsX00 ++ wsX40)
def wsX6_overrule_r1 : List Cond := [Cond.fieldLink RX6 40 "PointAnswers" "history" "LPointAnswers$History;", Cond.fieldLink RX6 12 "PointAnswers" "now" "LPointAnswers$Bundle;", Cond.instanceMethod yX2_prepare, Cond.initialized RX2, Cond.selects RX2 yX2_prepare yX2_prepare, Cond.code yX2_prepare cX2_prepare 3 none, Cond.fieldLink RX2 18 "PointAnswers$History" "kept" "I", Cond.methodLink RX2 22 yX2_rowAt, Cond.instanceMethod yX2_rowAt, Cond.selects RX2 yX2_rowAt yX2_rowAt, Cond.code yX2_rowAt cX2_rowAt 2 (some (.object "PointAnswers$Bundle")), Cond.fieldLink RX2 11 "PointAnswers$History" "rows" "[LPointAnswers$Bundle;", Cond.instanceMethod yX0_become, Cond.initialized RX0, Cond.selects RX0 yX0_become yX0_become, Cond.code yX0_become cX0_become 5 none, Cond.fieldLink RX0 25 "PointAnswers$Bundle" "size" "I", Cond.fieldLink RX0 28 "PointAnswers$Bundle" "day" "I", Cond.fieldLink RX0 31 "PointAnswers$Bundle" "overruled" "I", Cond.fieldLink RX0 17 "PointAnswers$Bundle" "lapse" "I", Cond.fieldLink RX0 21 "PointAnswers$Bundle" "allowedPages" "I", Cond.fieldLink RX0 11 "PointAnswers$Bundle" "rows" "[LPointAnswers$Point;", Cond.methodLink RX0 34 yX0_find, Cond.instanceMethod yX0_find]
def wsX6_overrule_r2 : List Cond := [Cond.selects RX0 yX0_find yX0_find, Cond.code yX0_find cX0_find 2 (some (.object "PointAnswers$Point")), Cond.instanceMethod yX4_become, Cond.initialized RX4, Cond.selects RX4 yX4_become yX4_become, Cond.code yX4_become cX4_become 2 none, Cond.fieldLink RX4 7 "PointAnswers$Point" "side" "I", Cond.fieldLink RX4 13 "PointAnswers$Point" "pages" "I", Cond.fieldLink RX4 16 "PointAnswers$Point" "cases" "I", Cond.fieldLink RX4 19 "PointAnswers$Point" "target" "I", Cond.fieldLink RX4 22 "PointAnswers$Point" "filed" "I", Cond.fieldLink RX4 25 "PointAnswers$Point" "lastsFrom" "I", Cond.fieldLink RX4 28 "PointAnswers$Point" "withdrawn" "Z", Cond.instanceMethod yX0_turnCase, Cond.selects RX0 yX0_turnCase yX0_turnCase, Cond.code yX0_turnCase cX0_turnCase 2 (some .int), Cond.static yX6_has, Cond.initialized RX6, Cond.code yX6_has cX6_has 2 (some .boolean), Cond.instanceMethod yX2_settle, Cond.selects RX2 yX2_settle yX2_settle, Cond.code yX2_settle cX2_settle 2 (some .int), Cond.methodLink RX2 30 yX2_dropOldest, Cond.instanceMethod yX2_dropOldest]
def wsX6_overrule_r3 : List Cond := [Cond.selects RX2 yX2_dropOldest yX2_dropOldest, Cond.code yX2_dropOldest cX2_dropOldest 3 none]
def wsX6_overrule : List Cond := .code yX6_overrule cX6_overrule 2 (some .int) :: ((wsX6_overrule_r1 ++ (wsX6_overrule_r2 ++ wsX6_overrule_r3)) ++ wsX60 ++ wsX20 ++ wsX00 ++ wsX40)
def wsX6_pass_r1 : List Cond := [Cond.fieldLink RX6 40 "PointAnswers" "history" "LPointAnswers$History;", Cond.fieldLink RX6 12 "PointAnswers" "now" "LPointAnswers$Bundle;", Cond.instanceMethod yX2_prepare, Cond.initialized RX2, Cond.selects RX2 yX2_prepare yX2_prepare, Cond.code yX2_prepare cX2_prepare 3 none, Cond.fieldLink RX2 18 "PointAnswers$History" "kept" "I", Cond.methodLink RX2 22 yX2_rowAt, Cond.instanceMethod yX2_rowAt, Cond.selects RX2 yX2_rowAt yX2_rowAt, Cond.code yX2_rowAt cX2_rowAt 2 (some (.object "PointAnswers$Bundle")), Cond.fieldLink RX2 11 "PointAnswers$History" "rows" "[LPointAnswers$Bundle;", Cond.instanceMethod yX0_become, Cond.initialized RX0, Cond.selects RX0 yX0_become yX0_become, Cond.code yX0_become cX0_become 5 none, Cond.fieldLink RX0 25 "PointAnswers$Bundle" "size" "I", Cond.fieldLink RX0 28 "PointAnswers$Bundle" "day" "I", Cond.fieldLink RX0 31 "PointAnswers$Bundle" "overruled" "I", Cond.fieldLink RX0 17 "PointAnswers$Bundle" "lapse" "I", Cond.fieldLink RX0 21 "PointAnswers$Bundle" "allowedPages" "I", Cond.fieldLink RX0 11 "PointAnswers$Bundle" "rows" "[LPointAnswers$Point;", Cond.methodLink RX0 34 yX0_find, Cond.instanceMethod yX0_find]
def wsX6_pass_r2 : List Cond := [Cond.selects RX0 yX0_find yX0_find, Cond.code yX0_find cX0_find 2 (some (.object "PointAnswers$Point")), Cond.instanceMethod yX4_become, Cond.initialized RX4, Cond.selects RX4 yX4_become yX4_become, Cond.code yX4_become cX4_become 2 none, Cond.fieldLink RX4 7 "PointAnswers$Point" "side" "I", Cond.fieldLink RX4 13 "PointAnswers$Point" "pages" "I", Cond.fieldLink RX4 16 "PointAnswers$Point" "cases" "I", Cond.fieldLink RX4 19 "PointAnswers$Point" "target" "I", Cond.fieldLink RX4 22 "PointAnswers$Point" "filed" "I", Cond.fieldLink RX4 25 "PointAnswers$Point" "lastsFrom" "I", Cond.fieldLink RX4 28 "PointAnswers$Point" "withdrawn" "Z", Cond.instanceMethod yX0_moveOn, Cond.selects RX0 yX0_moveOn yX0_moveOn, Cond.code yX0_moveOn cX0_moveOn 2 (some .int), Cond.methodLink RX0 76 yX0_standing, Cond.instanceMethod yX0_standing, Cond.selects RX0 yX0_standing yX0_standing, Cond.code yX0_standing cX0_standing 1 (some .int), Cond.methodLink RX0 109 yX0_out, Cond.instanceMethod yX0_out, Cond.selects RX0 yX0_out yX0_out, Cond.code yX0_out cX0_out 1 (some .int)]
def wsX6_pass_r3 : List Cond := [Cond.methodLink RX0 98 yX0_withdrawn, Cond.instanceMethod yX0_withdrawn, Cond.selects RX0 yX0_withdrawn yX0_withdrawn, Cond.code yX0_withdrawn cX0_withdrawn 4 (some .int), Cond.methodLink RX0 100 yX0_struck, Cond.instanceMethod yX0_struck, Cond.selects RX0 yX0_struck yX0_struck, Cond.code yX0_struck cX0_struck 6 (some .int), Cond.methodLink RX0 103 yX0_lapsedOn, Cond.instanceMethod yX0_lapsedOn, Cond.selects RX0 yX0_lapsedOn yX0_lapsedOn, Cond.code yX0_lapsedOn cX0_lapsedOn 5 (some .int), Cond.methodLink RX0 106 yX0_baseless, Cond.instanceMethod yX0_baseless, Cond.selects RX0 yX0_baseless yX0_baseless, Cond.code yX0_baseless cX0_baseless 4 (some .int), Cond.methodLink RX0 112 yX0_standingIf, Cond.instanceMethod yX0_standingIf, Cond.selects RX0 yX0_standingIf yX0_standingIf, Cond.code yX0_standingIf cX0_standingIf 6 (some .int), Cond.static yX6_has, Cond.initialized RX6, Cond.code yX6_has cX6_has 2 (some .boolean), Cond.methodLink RX0 95 yX0_targetOf]
def wsX6_pass_r4 : List Cond := [Cond.instanceMethod yX0_targetOf, Cond.selects RX0 yX0_targetOf yX0_targetOf, Cond.code yX0_targetOf cX0_targetOf 3 (some .int), Cond.methodLink RX0 80 yJ6_bitCount_0f7a4, Cond.static yJ6_bitCount_0f7a4, Cond.initialized RJ6, Cond.code yJ6_bitCount_0f7a4 cJ6_bitCount_0f7a4 1 (some .int), Cond.constant RJ6 265 (1431655765), Cond.constant RJ6 266 (858993459), Cond.constant RJ6 267 (252645135), Cond.instanceMethod yX2_settle, Cond.selects RX2 yX2_settle yX2_settle, Cond.code yX2_settle cX2_settle 2 (some .int), Cond.methodLink RX2 30 yX2_dropOldest, Cond.instanceMethod yX2_dropOldest, Cond.selects RX2 yX2_dropOldest yX2_dropOldest, Cond.code yX2_dropOldest cX2_dropOldest 3 none]
def wsX6_pass : List Cond := .code yX6_pass cX6_pass 2 (some .int) :: ((wsX6_pass_r1 ++ (wsX6_pass_r2 ++ (wsX6_pass_r3 ++ wsX6_pass_r4))) ++ wsX60 ++ wsX20 ++ wsX00 ++ wsX40)
def wsX6_lowestOf : List Cond := .code yX6_lowestOf cX6_lowestOf 2 (some .int) :: ([.methodLink RX6 105 yX6_has, .static yX6_has, .initialized RX6, .code yX6_has cX6_has 2 (some .boolean)])
def wsX6_of_r1 : List Cond := [Cond.fieldLink RX6 12 "PointAnswers" "now" "LPointAnswers$Bundle;", Cond.instanceMethod yX0_find, Cond.initialized RX0, Cond.selects RX0 yX0_find yX0_find, Cond.code yX0_find cX0_find 2 (some (.object "PointAnswers$Point")), Cond.fieldLink RX0 25 "PointAnswers$Bundle" "size" "I", Cond.fieldLink RX0 11 "PointAnswers$Bundle" "rows" "[LPointAnswers$Point;", Cond.instanceMethod yX0_standing, Cond.selects RX0 yX0_standing yX0_standing, Cond.code yX0_standing cX0_standing 1 (some .int), Cond.methodLink RX0 109 yX0_out, Cond.instanceMethod yX0_out, Cond.selects RX0 yX0_out yX0_out, Cond.code yX0_out cX0_out 1 (some .int), Cond.fieldLink RX0 28 "PointAnswers$Bundle" "day" "I", Cond.methodLink RX0 98 yX0_withdrawn, Cond.instanceMethod yX0_withdrawn, Cond.selects RX0 yX0_withdrawn yX0_withdrawn, Cond.code yX0_withdrawn cX0_withdrawn 4 (some .int), Cond.methodLink RX0 34 yX0_find, Cond.methodLink RX0 100 yX0_struck, Cond.instanceMethod yX0_struck, Cond.selects RX0 yX0_struck yX0_struck, Cond.code yX0_struck cX0_struck 6 (some .int)]
def wsX6_of_r2 : List Cond := [Cond.fieldLink RX0 21 "PointAnswers$Bundle" "allowedPages" "I", Cond.methodLink RX0 103 yX0_lapsedOn, Cond.instanceMethod yX0_lapsedOn, Cond.selects RX0 yX0_lapsedOn yX0_lapsedOn, Cond.code yX0_lapsedOn cX0_lapsedOn 5 (some .int), Cond.fieldLink RX0 17 "PointAnswers$Bundle" "lapse" "I", Cond.methodLink RX0 106 yX0_baseless, Cond.instanceMethod yX0_baseless, Cond.selects RX0 yX0_baseless yX0_baseless, Cond.code yX0_baseless cX0_baseless 4 (some .int), Cond.fieldLink RX0 31 "PointAnswers$Bundle" "overruled" "I", Cond.methodLink RX0 112 yX0_standingIf, Cond.instanceMethod yX0_standingIf, Cond.selects RX0 yX0_standingIf yX0_standingIf, Cond.code yX0_standingIf cX0_standingIf 6 (some .int), Cond.static yX6_has, Cond.initialized RX6, Cond.code yX6_has cX6_has 2 (some .boolean), Cond.methodLink RX0 95 yX0_targetOf, Cond.instanceMethod yX0_targetOf, Cond.selects RX0 yX0_targetOf yX0_targetOf, Cond.code yX0_targetOf cX0_targetOf 3 (some .int), Cond.methodLink RX6 105 yX6_has, Cond.instanceMethod yX0_reasonAgainst]
def wsX6_of_r3 : List Cond := [Cond.selects RX0 yX0_reasonAgainst yX0_reasonAgainst, Cond.code yX0_reasonAgainst cX0_reasonAgainst 2 (some .int), Cond.methodLink RX0 76 yX0_standing, Cond.instanceMethod yX0_answersTo, Cond.selects RX0 yX0_answersTo yX0_answersTo, Cond.code yX0_answersTo cX0_answersTo 5 (some .int), Cond.methodLink RX6 115 yX6_lowestOf, Cond.static yX6_lowestOf, Cond.code yX6_lowestOf cX6_lowestOf 2 (some .int), Cond.instanceMethod yX0_depthOf, Cond.selects RX0 yX0_depthOf yX0_depthOf, Cond.code yX0_depthOf cX0_depthOf 4 (some .int), Cond.instanceMethod yX0_daysLeft, Cond.selects RX0 yX0_daysLeft yX0_daysLeft, Cond.code yX0_daysLeft cX0_daysLeft 3 (some .int)]
def wsX6_of : List Cond := .code yX6_of cX6_of 4 (some .int) :: ((wsX6_of_r1 ++ (wsX6_of_r2 ++ wsX6_of_r3)) ++ wsX60 ++ wsX40 ++ wsX00)
def wsX6_count_r1 : List Cond := [Cond.fieldLink RX6 12 "PointAnswers" "now" "LPointAnswers$Bundle;", Cond.fieldLink RX6 26 "PointAnswers" "pad" "LPointAnswers$Pad;", Cond.fieldLink RX6 40 "PointAnswers" "history" "LPointAnswers$History;", Cond.instanceMethod yX0_claims, Cond.initialized RX0, Cond.selects RX0 yX0_claims yX0_claims, Cond.code yX0_claims cX0_claims 1 (some .int), Cond.methodLink RX0 89 yX0_answersTo, Cond.instanceMethod yX0_answersTo, Cond.selects RX0 yX0_answersTo yX0_answersTo, Cond.code yX0_answersTo cX0_answersTo 5 (some .int), Cond.fieldLink RX0 25 "PointAnswers$Bundle" "size" "I", Cond.methodLink RX0 34 yX0_find, Cond.instanceMethod yX0_find, Cond.selects RX0 yX0_find yX0_find, Cond.code yX0_find cX0_find 2 (some (.object "PointAnswers$Point")), Cond.fieldLink RX0 11 "PointAnswers$Bundle" "rows" "[LPointAnswers$Point;", Cond.methodLink RX6 134 yJ6_bitCount_0f7a4, Cond.static yJ6_bitCount_0f7a4, Cond.initialized RJ6, Cond.code yJ6_bitCount_0f7a4 cJ6_bitCount_0f7a4 1 (some .int), Cond.constant RJ6 265 (1431655765), Cond.constant RJ6 266 (858993459), Cond.constant RJ6 267 (252645135)]
def wsX6_count_r2 : List Cond := [Cond.instanceMethod yX0_standing, Cond.selects RX0 yX0_standing yX0_standing, Cond.code yX0_standing cX0_standing 1 (some .int), Cond.methodLink RX0 109 yX0_out, Cond.instanceMethod yX0_out, Cond.selects RX0 yX0_out yX0_out, Cond.code yX0_out cX0_out 1 (some .int), Cond.fieldLink RX0 28 "PointAnswers$Bundle" "day" "I", Cond.methodLink RX0 98 yX0_withdrawn, Cond.instanceMethod yX0_withdrawn, Cond.selects RX0 yX0_withdrawn yX0_withdrawn, Cond.code yX0_withdrawn cX0_withdrawn 4 (some .int), Cond.methodLink RX0 100 yX0_struck, Cond.instanceMethod yX0_struck, Cond.selects RX0 yX0_struck yX0_struck, Cond.code yX0_struck cX0_struck 6 (some .int), Cond.fieldLink RX0 21 "PointAnswers$Bundle" "allowedPages" "I", Cond.methodLink RX0 103 yX0_lapsedOn, Cond.instanceMethod yX0_lapsedOn, Cond.selects RX0 yX0_lapsedOn yX0_lapsedOn, Cond.code yX0_lapsedOn cX0_lapsedOn 5 (some .int), Cond.fieldLink RX0 17 "PointAnswers$Bundle" "lapse" "I", Cond.methodLink RX0 106 yX0_baseless, Cond.instanceMethod yX0_baseless]
def wsX6_count_r3 : List Cond := [Cond.selects RX0 yX0_baseless yX0_baseless, Cond.code yX0_baseless cX0_baseless 4 (some .int), Cond.fieldLink RX0 31 "PointAnswers$Bundle" "overruled" "I", Cond.methodLink RX0 112 yX0_standingIf, Cond.instanceMethod yX0_standingIf, Cond.selects RX0 yX0_standingIf yX0_standingIf, Cond.code yX0_standingIf cX0_standingIf 6 (some .int), Cond.static yX6_has, Cond.initialized RX6, Cond.code yX6_has cX6_has 2 (some .boolean), Cond.methodLink RX0 95 yX0_targetOf, Cond.instanceMethod yX0_targetOf, Cond.selects RX0 yX0_targetOf yX0_targetOf, Cond.code yX0_targetOf cX0_targetOf 3 (some .int), Cond.instanceMethod yX0_answered, Cond.selects RX0 yX0_answered yX0_answered, Cond.code yX0_answered cX0_answered 1 (some .int), Cond.methodLink RX0 92 yX0_all, Cond.instanceMethod yX0_all, Cond.selects RX0 yX0_all yX0_all, Cond.code yX0_all cX0_all 1 (some .int), Cond.methodLink RX0 76 yX0_standing, Cond.instanceMethod yX0_pagesOf, Cond.selects RX0 yX0_pagesOf yX0_pagesOf]
def wsX6_count_r4 : List Cond := [Cond.code yX0_pagesOf cX0_pagesOf 6 (some .int)]
def wsX6_count : List Cond := .code yX6_count cX6_count 2 (some .int) :: ((wsX6_count_r1 ++ (wsX6_count_r2 ++ (wsX6_count_r3 ++ wsX6_count_r4))) ++ wsX60 ++ wsX00 ++ wsX30 ++ wsX20 ++ wsX40)
def wsX6_points_r1 : List Cond := [Cond.fieldLink RX6 12 "PointAnswers" "now" "LPointAnswers$Bundle;", Cond.instanceMethod yX0_standing, Cond.initialized RX0, Cond.selects RX0 yX0_standing yX0_standing, Cond.code yX0_standing cX0_standing 1 (some .int), Cond.methodLink RX0 109 yX0_out, Cond.instanceMethod yX0_out, Cond.selects RX0 yX0_out yX0_out, Cond.code yX0_out cX0_out 1 (some .int), Cond.fieldLink RX0 28 "PointAnswers$Bundle" "day" "I", Cond.methodLink RX0 98 yX0_withdrawn, Cond.instanceMethod yX0_withdrawn, Cond.selects RX0 yX0_withdrawn yX0_withdrawn, Cond.code yX0_withdrawn cX0_withdrawn 4 (some .int), Cond.fieldLink RX0 25 "PointAnswers$Bundle" "size" "I", Cond.methodLink RX0 34 yX0_find, Cond.instanceMethod yX0_find, Cond.selects RX0 yX0_find yX0_find, Cond.code yX0_find cX0_find 2 (some (.object "PointAnswers$Point")), Cond.fieldLink RX0 11 "PointAnswers$Bundle" "rows" "[LPointAnswers$Point;", Cond.methodLink RX0 100 yX0_struck, Cond.instanceMethod yX0_struck, Cond.selects RX0 yX0_struck yX0_struck, Cond.code yX0_struck cX0_struck 6 (some .int)]
def wsX6_points_r2 : List Cond := [Cond.fieldLink RX0 21 "PointAnswers$Bundle" "allowedPages" "I", Cond.methodLink RX0 103 yX0_lapsedOn, Cond.instanceMethod yX0_lapsedOn, Cond.selects RX0 yX0_lapsedOn yX0_lapsedOn, Cond.code yX0_lapsedOn cX0_lapsedOn 5 (some .int), Cond.fieldLink RX0 17 "PointAnswers$Bundle" "lapse" "I", Cond.methodLink RX0 106 yX0_baseless, Cond.instanceMethod yX0_baseless, Cond.selects RX0 yX0_baseless yX0_baseless, Cond.code yX0_baseless cX0_baseless 4 (some .int), Cond.fieldLink RX0 31 "PointAnswers$Bundle" "overruled" "I", Cond.methodLink RX0 112 yX0_standingIf, Cond.instanceMethod yX0_standingIf, Cond.selects RX0 yX0_standingIf yX0_standingIf, Cond.code yX0_standingIf cX0_standingIf 6 (some .int), Cond.static yX6_has, Cond.initialized RX6, Cond.code yX6_has cX6_has 2 (some .boolean), Cond.methodLink RX0 95 yX0_targetOf, Cond.instanceMethod yX0_targetOf, Cond.selects RX0 yX0_targetOf yX0_targetOf, Cond.code yX0_targetOf cX0_targetOf 3 (some .int), Cond.instanceMethod yX0_claims, Cond.selects RX0 yX0_claims yX0_claims]
def wsX6_points_r3 : List Cond := [Cond.code yX0_claims cX0_claims 1 (some .int), Cond.methodLink RX0 89 yX0_answersTo, Cond.instanceMethod yX0_answersTo, Cond.selects RX0 yX0_answersTo yX0_answersTo, Cond.code yX0_answersTo cX0_answersTo 5 (some .int), Cond.instanceMethod yX0_answered, Cond.selects RX0 yX0_answered yX0_answered, Cond.code yX0_answered cX0_answered 1 (some .int), Cond.methodLink RX0 92 yX0_all, Cond.instanceMethod yX0_all, Cond.selects RX0 yX0_all yX0_all, Cond.code yX0_all cX0_all 1 (some .int), Cond.methodLink RX0 76 yX0_standing, Cond.instanceMethod yX0_ofSide, Cond.selects RX0 yX0_ofSide yX0_ofSide, Cond.code yX0_ofSide cX0_ofSide 5 (some .int)]
def wsX6_points : List Cond := .code yX6_points cX6_points 2 (some .int) :: ((wsX6_points_r1 ++ (wsX6_points_r2 ++ wsX6_points_r3)) ++ wsX60 ++ wsX00 ++ wsX40)
def wsX6_floatBits : List Cond := .code yX6_floatBits cX6_floatBits 9 (some .int) :: ([.constantLong RX6 257 (2), .constantLong RX6 259 (8388608)])
def wsX6_share_r1 : List Cond := [Cond.fieldLink RX6 12 "PointAnswers" "now" "LPointAnswers$Bundle;", Cond.instanceMethod yX0_claims, Cond.initialized RX0, Cond.selects RX0 yX0_claims yX0_claims, Cond.code yX0_claims cX0_claims 1 (some .int), Cond.methodLink RX0 89 yX0_answersTo, Cond.instanceMethod yX0_answersTo, Cond.selects RX0 yX0_answersTo yX0_answersTo, Cond.code yX0_answersTo cX0_answersTo 5 (some .int), Cond.fieldLink RX0 25 "PointAnswers$Bundle" "size" "I", Cond.methodLink RX0 34 yX0_find, Cond.instanceMethod yX0_find, Cond.selects RX0 yX0_find yX0_find, Cond.code yX0_find cX0_find 2 (some (.object "PointAnswers$Point")), Cond.fieldLink RX0 11 "PointAnswers$Bundle" "rows" "[LPointAnswers$Point;", Cond.instanceMethod yX0_ofSide, Cond.selects RX0 yX0_ofSide yX0_ofSide, Cond.code yX0_ofSide cX0_ofSide 5 (some .int), Cond.instanceMethod yX0_standing, Cond.selects RX0 yX0_standing yX0_standing, Cond.code yX0_standing cX0_standing 1 (some .int), Cond.methodLink RX0 109 yX0_out, Cond.instanceMethod yX0_out, Cond.selects RX0 yX0_out yX0_out]
def wsX6_share_r2 : List Cond := [Cond.code yX0_out cX0_out 1 (some .int), Cond.fieldLink RX0 28 "PointAnswers$Bundle" "day" "I", Cond.methodLink RX0 98 yX0_withdrawn, Cond.instanceMethod yX0_withdrawn, Cond.selects RX0 yX0_withdrawn yX0_withdrawn, Cond.code yX0_withdrawn cX0_withdrawn 4 (some .int), Cond.methodLink RX0 100 yX0_struck, Cond.instanceMethod yX0_struck, Cond.selects RX0 yX0_struck yX0_struck, Cond.code yX0_struck cX0_struck 6 (some .int), Cond.fieldLink RX0 21 "PointAnswers$Bundle" "allowedPages" "I", Cond.methodLink RX0 103 yX0_lapsedOn, Cond.instanceMethod yX0_lapsedOn, Cond.selects RX0 yX0_lapsedOn yX0_lapsedOn, Cond.code yX0_lapsedOn cX0_lapsedOn 5 (some .int), Cond.fieldLink RX0 17 "PointAnswers$Bundle" "lapse" "I", Cond.methodLink RX0 106 yX0_baseless, Cond.instanceMethod yX0_baseless, Cond.selects RX0 yX0_baseless yX0_baseless, Cond.code yX0_baseless cX0_baseless 4 (some .int), Cond.fieldLink RX0 31 "PointAnswers$Bundle" "overruled" "I", Cond.methodLink RX0 112 yX0_standingIf, Cond.instanceMethod yX0_standingIf, Cond.selects RX0 yX0_standingIf yX0_standingIf]
def wsX6_share_r3 : List Cond := [Cond.code yX0_standingIf cX0_standingIf 6 (some .int), Cond.static yX6_has, Cond.initialized RX6, Cond.code yX6_has cX6_has 2 (some .boolean), Cond.methodLink RX0 95 yX0_targetOf, Cond.instanceMethod yX0_targetOf, Cond.selects RX0 yX0_targetOf yX0_targetOf, Cond.code yX0_targetOf cX0_targetOf 3 (some .int), Cond.methodLink RX6 134 yJ6_bitCount_0f7a4, Cond.static yJ6_bitCount_0f7a4, Cond.initialized RJ6, Cond.code yJ6_bitCount_0f7a4 cJ6_bitCount_0f7a4 1 (some .int), Cond.constant RJ6 265 (1431655765), Cond.constant RJ6 266 (858993459), Cond.constant RJ6 267 (252645135), Cond.methodLink RX6 172 yX6_floatBits, Cond.static yX6_floatBits, Cond.code yX6_floatBits cX6_floatBits 9 (some .int), Cond.constantLong RX6 257 (2), Cond.constantLong RX6 259 (8388608)]
def wsX6_share : List Cond := .code yX6_share cX6_share 3 (some .int) :: ((wsX6_share_r1 ++ (wsX6_share_r2 ++ wsX6_share_r3)) ++ wsX60 ++ wsX00 ++ wsX40)
def wsX6_toFall_r1 : List Cond := [Cond.fieldLink RX6 12 "PointAnswers" "now" "LPointAnswers$Bundle;", Cond.fieldLink RX6 19 "PointAnswers" "costs" "LPointAnswers$Costs;", Cond.instanceMethod yX0_find, Cond.initialized RX0, Cond.selects RX0 yX0_find yX0_find, Cond.code yX0_find cX0_find 2 (some (.object "PointAnswers$Point")), Cond.fieldLink RX0 25 "PointAnswers$Bundle" "size" "I", Cond.fieldLink RX0 11 "PointAnswers$Bundle" "rows" "[LPointAnswers$Point;", Cond.instanceMethod yX1_weigh, Cond.initialized RX1, Cond.selects RX1 yX1_weigh yX1_weigh, Cond.code yX1_weigh cX1_weigh 6 none, Cond.fieldLink RX1 9 "PointAnswers$Costs" "fall" "[I", Cond.fieldLink RX1 15 "PointAnswers$Costs" "stand" "[I", Cond.instanceMethod yX0_out, Cond.selects RX0 yX0_out yX0_out, Cond.code yX0_out cX0_out 1 (some .int), Cond.fieldLink RX0 28 "PointAnswers$Bundle" "day" "I", Cond.methodLink RX0 98 yX0_withdrawn, Cond.instanceMethod yX0_withdrawn, Cond.selects RX0 yX0_withdrawn yX0_withdrawn, Cond.code yX0_withdrawn cX0_withdrawn 4 (some .int), Cond.methodLink RX0 34 yX0_find, Cond.methodLink RX0 100 yX0_struck]
def wsX6_toFall_r2 : List Cond := [Cond.instanceMethod yX0_struck, Cond.selects RX0 yX0_struck yX0_struck, Cond.code yX0_struck cX0_struck 6 (some .int), Cond.fieldLink RX0 21 "PointAnswers$Bundle" "allowedPages" "I", Cond.methodLink RX0 103 yX0_lapsedOn, Cond.instanceMethod yX0_lapsedOn, Cond.selects RX0 yX0_lapsedOn yX0_lapsedOn, Cond.code yX0_lapsedOn cX0_lapsedOn 5 (some .int), Cond.fieldLink RX0 17 "PointAnswers$Bundle" "lapse" "I", Cond.methodLink RX0 106 yX0_baseless, Cond.instanceMethod yX0_baseless, Cond.selects RX0 yX0_baseless yX0_baseless, Cond.code yX0_baseless cX0_baseless 4 (some .int), Cond.fieldLink RX0 31 "PointAnswers$Bundle" "overruled" "I", Cond.instanceMethod yX0_withoutAnswers, Cond.selects RX0 yX0_withoutAnswers yX0_withoutAnswers, Cond.code yX0_withoutAnswers cX0_withoutAnswers 3 (some .int), Cond.methodLink RX0 92 yX0_all, Cond.instanceMethod yX0_all, Cond.selects RX0 yX0_all yX0_all, Cond.code yX0_all cX0_all 1 (some .int), Cond.methodLink RX0 95 yX0_targetOf, Cond.instanceMethod yX0_targetOf, Cond.selects RX0 yX0_targetOf yX0_targetOf]
def wsX6_toFall_r3 : List Cond := [Cond.code yX0_targetOf cX0_targetOf 3 (some .int), Cond.static yX6_has, Cond.initialized RX6, Cond.code yX6_has cX6_has 2 (some .boolean), Cond.methodLink RX1 41 yX1_addToTarget, Cond.instanceMethod yX1_addToTarget, Cond.selects RX1 yX1_addToTarget yX1_addToTarget, Cond.code yX1_addToTarget cX1_addToTarget 4 none, Cond.methodLink RX1 45 Lib.Math.min.name, Cond.static Lib.Math.min.name, Cond.initialized "java/lang/Math", Cond.code Lib.Math.min.name Lib.Math.min.code 2 (some .int), Cond.instanceMethod yX1_answersToFall, Cond.selects RX1 yX1_answersToFall yX1_answersToFall, Cond.code yX1_answersToFall cX1_answersToFall 2 (some .int), Cond.methodLink RX1 51 yX1_reachable, Cond.static yX1_reachable, Cond.code yX1_reachable cX1_reachable 1 (some .int)]
def wsX6_toFall : List Cond := .code yX6_toFall cX6_toFall 2 (some .int) :: ((wsX6_toFall_r1 ++ (wsX6_toFall_r2 ++ wsX6_toFall_r3)) ++ wsX60 ++ wsX00 ++ wsX10 ++ wsX40)
def wsX6_toStand_r1 : List Cond := [Cond.fieldLink RX6 12 "PointAnswers" "now" "LPointAnswers$Bundle;", Cond.fieldLink RX6 19 "PointAnswers" "costs" "LPointAnswers$Costs;", Cond.instanceMethod yX0_find, Cond.initialized RX0, Cond.selects RX0 yX0_find yX0_find, Cond.code yX0_find cX0_find 2 (some (.object "PointAnswers$Point")), Cond.fieldLink RX0 25 "PointAnswers$Bundle" "size" "I", Cond.fieldLink RX0 11 "PointAnswers$Bundle" "rows" "[LPointAnswers$Point;", Cond.instanceMethod yX0_out, Cond.selects RX0 yX0_out yX0_out, Cond.code yX0_out cX0_out 1 (some .int), Cond.fieldLink RX0 28 "PointAnswers$Bundle" "day" "I", Cond.methodLink RX0 98 yX0_withdrawn, Cond.instanceMethod yX0_withdrawn, Cond.selects RX0 yX0_withdrawn yX0_withdrawn, Cond.code yX0_withdrawn cX0_withdrawn 4 (some .int), Cond.methodLink RX0 34 yX0_find, Cond.methodLink RX0 100 yX0_struck, Cond.instanceMethod yX0_struck, Cond.selects RX0 yX0_struck yX0_struck, Cond.code yX0_struck cX0_struck 6 (some .int), Cond.fieldLink RX0 21 "PointAnswers$Bundle" "allowedPages" "I", Cond.methodLink RX0 103 yX0_lapsedOn, Cond.instanceMethod yX0_lapsedOn]
def wsX6_toStand_r2 : List Cond := [Cond.selects RX0 yX0_lapsedOn yX0_lapsedOn, Cond.code yX0_lapsedOn cX0_lapsedOn 5 (some .int), Cond.fieldLink RX0 17 "PointAnswers$Bundle" "lapse" "I", Cond.methodLink RX0 106 yX0_baseless, Cond.instanceMethod yX0_baseless, Cond.selects RX0 yX0_baseless yX0_baseless, Cond.code yX0_baseless cX0_baseless 4 (some .int), Cond.fieldLink RX0 31 "PointAnswers$Bundle" "overruled" "I", Cond.methodLink RX6 105 yX6_has, Cond.static yX6_has, Cond.initialized RX6, Cond.code yX6_has cX6_has 2 (some .boolean), Cond.instanceMethod yX1_weigh, Cond.initialized RX1, Cond.selects RX1 yX1_weigh yX1_weigh, Cond.code yX1_weigh cX1_weigh 6 none, Cond.fieldLink RX1 9 "PointAnswers$Costs" "fall" "[I", Cond.fieldLink RX1 15 "PointAnswers$Costs" "stand" "[I", Cond.instanceMethod yX0_withoutAnswers, Cond.selects RX0 yX0_withoutAnswers yX0_withoutAnswers, Cond.code yX0_withoutAnswers cX0_withoutAnswers 3 (some .int), Cond.methodLink RX0 92 yX0_all, Cond.instanceMethod yX0_all, Cond.selects RX0 yX0_all yX0_all]
def wsX6_toStand_r3 : List Cond := [Cond.code yX0_all cX0_all 1 (some .int), Cond.methodLink RX0 95 yX0_targetOf, Cond.instanceMethod yX0_targetOf, Cond.selects RX0 yX0_targetOf yX0_targetOf, Cond.code yX0_targetOf cX0_targetOf 3 (some .int), Cond.methodLink RX1 41 yX1_addToTarget, Cond.instanceMethod yX1_addToTarget, Cond.selects RX1 yX1_addToTarget yX1_addToTarget, Cond.code yX1_addToTarget cX1_addToTarget 4 none, Cond.methodLink RX1 45 Lib.Math.min.name, Cond.static Lib.Math.min.name, Cond.initialized "java/lang/Math", Cond.code Lib.Math.min.name Lib.Math.min.code 2 (some .int), Cond.instanceMethod yX1_answersToStand, Cond.selects RX1 yX1_answersToStand yX1_answersToStand, Cond.code yX1_answersToStand cX1_answersToStand 2 (some .int), Cond.methodLink RX1 51 yX1_reachable, Cond.static yX1_reachable, Cond.code yX1_reachable cX1_reachable 1 (some .int)]
def wsX6_toStand : List Cond := .code yX6_toStand cX6_toStand 2 (some .int) :: ((wsX6_toStand_r1 ++ (wsX6_toStand_r2 ++ wsX6_toStand_r3)) ++ wsX60 ++ wsX00 ++ wsX40 ++ wsX10)
def wsX6_bestAnswer_r1 : List Cond := [Cond.fieldLink RX6 12 "PointAnswers" "now" "LPointAnswers$Bundle;", Cond.instanceMethod yX0_out, Cond.initialized RX0, Cond.selects RX0 yX0_out yX0_out, Cond.code yX0_out cX0_out 1 (some .int), Cond.fieldLink RX0 28 "PointAnswers$Bundle" "day" "I", Cond.methodLink RX0 98 yX0_withdrawn, Cond.instanceMethod yX0_withdrawn, Cond.selects RX0 yX0_withdrawn yX0_withdrawn, Cond.code yX0_withdrawn cX0_withdrawn 4 (some .int), Cond.fieldLink RX0 25 "PointAnswers$Bundle" "size" "I", Cond.methodLink RX0 34 yX0_find, Cond.instanceMethod yX0_find, Cond.selects RX0 yX0_find yX0_find, Cond.code yX0_find cX0_find 2 (some (.object "PointAnswers$Point")), Cond.fieldLink RX0 11 "PointAnswers$Bundle" "rows" "[LPointAnswers$Point;", Cond.methodLink RX0 100 yX0_struck, Cond.instanceMethod yX0_struck, Cond.selects RX0 yX0_struck yX0_struck, Cond.code yX0_struck cX0_struck 6 (some .int), Cond.fieldLink RX0 21 "PointAnswers$Bundle" "allowedPages" "I", Cond.methodLink RX0 103 yX0_lapsedOn, Cond.instanceMethod yX0_lapsedOn, Cond.selects RX0 yX0_lapsedOn yX0_lapsedOn]
def wsX6_bestAnswer_r2 : List Cond := [Cond.code yX0_lapsedOn cX0_lapsedOn 5 (some .int), Cond.fieldLink RX0 17 "PointAnswers$Bundle" "lapse" "I", Cond.methodLink RX0 106 yX0_baseless, Cond.instanceMethod yX0_baseless, Cond.selects RX0 yX0_baseless yX0_baseless, Cond.code yX0_baseless cX0_baseless 4 (some .int), Cond.fieldLink RX0 31 "PointAnswers$Bundle" "overruled" "I", Cond.instanceMethod yX0_standingIf, Cond.selects RX0 yX0_standingIf yX0_standingIf, Cond.code yX0_standingIf cX0_standingIf 6 (some .int), Cond.static yX6_has, Cond.initialized RX6, Cond.code yX6_has cX6_has 2 (some .boolean), Cond.methodLink RX0 95 yX0_targetOf, Cond.instanceMethod yX0_targetOf, Cond.selects RX0 yX0_targetOf yX0_targetOf, Cond.code yX0_targetOf cX0_targetOf 3 (some .int), Cond.instanceMethod yX0_withoutAnswers, Cond.selects RX0 yX0_withoutAnswers yX0_withoutAnswers, Cond.code yX0_withoutAnswers cX0_withoutAnswers 3 (some .int), Cond.methodLink RX0 92 yX0_all, Cond.instanceMethod yX0_all, Cond.selects RX0 yX0_all yX0_all, Cond.code yX0_all cX0_all 1 (some .int)]
def wsX6_bestAnswer_r3 : List Cond := [Cond.methodLink RX6 105 yX6_has, Cond.instanceMethod yX0_claims, Cond.selects RX0 yX0_claims yX0_claims, Cond.code yX0_claims cX0_claims 1 (some .int), Cond.methodLink RX0 89 yX0_answersTo, Cond.instanceMethod yX0_answersTo, Cond.selects RX0 yX0_answersTo yX0_answersTo, Cond.code yX0_answersTo cX0_answersTo 5 (some .int), Cond.methodLink RX6 134 yJ6_bitCount_0f7a4, Cond.static yJ6_bitCount_0f7a4, Cond.initialized RJ6, Cond.code yJ6_bitCount_0f7a4 cJ6_bitCount_0f7a4 1 (some .int), Cond.constant RJ6 265 (1431655765), Cond.constant RJ6 266 (858993459), Cond.constant RJ6 267 (252645135)]
def wsX6_bestAnswer : List Cond := .code yX6_bestAnswer cX6_bestAnswer 9 (some .int) :: ((wsX6_bestAnswer_r1 ++ (wsX6_bestAnswer_r2 ++ wsX6_bestAnswer_r3)) ++ wsX60 ++ wsX00 ++ wsX40)
def wsX6_changesIn_r1 : List Cond := [Cond.fieldLink RX6 12 "PointAnswers" "now" "LPointAnswers$Bundle;", Cond.instanceMethod yX0_withdrawn, Cond.initialized RX0, Cond.selects RX0 yX0_withdrawn yX0_withdrawn, Cond.code yX0_withdrawn cX0_withdrawn 4 (some .int), Cond.fieldLink RX0 25 "PointAnswers$Bundle" "size" "I", Cond.methodLink RX0 34 yX0_find, Cond.instanceMethod yX0_find, Cond.selects RX0 yX0_find yX0_find, Cond.code yX0_find cX0_find 2 (some (.object "PointAnswers$Point")), Cond.fieldLink RX0 11 "PointAnswers$Bundle" "rows" "[LPointAnswers$Point;", Cond.instanceMethod yX0_struck, Cond.selects RX0 yX0_struck yX0_struck, Cond.code yX0_struck cX0_struck 6 (some .int), Cond.fieldLink RX0 21 "PointAnswers$Bundle" "allowedPages" "I", Cond.instanceMethod yX0_baseless, Cond.selects RX0 yX0_baseless yX0_baseless, Cond.code yX0_baseless cX0_baseless 4 (some .int), Cond.fieldLink RX0 31 "PointAnswers$Bundle" "overruled" "I", Cond.instanceMethod yX0_standing, Cond.selects RX0 yX0_standing yX0_standing, Cond.code yX0_standing cX0_standing 1 (some .int), Cond.methodLink RX0 109 yX0_out, Cond.instanceMethod yX0_out]
def wsX6_changesIn_r2 : List Cond := [Cond.selects RX0 yX0_out yX0_out, Cond.code yX0_out cX0_out 1 (some .int), Cond.fieldLink RX0 28 "PointAnswers$Bundle" "day" "I", Cond.methodLink RX0 98 yX0_withdrawn, Cond.methodLink RX0 100 yX0_struck, Cond.methodLink RX0 103 yX0_lapsedOn, Cond.instanceMethod yX0_lapsedOn, Cond.selects RX0 yX0_lapsedOn yX0_lapsedOn, Cond.code yX0_lapsedOn cX0_lapsedOn 5 (some .int), Cond.fieldLink RX0 17 "PointAnswers$Bundle" "lapse" "I", Cond.methodLink RX0 106 yX0_baseless, Cond.methodLink RX0 112 yX0_standingIf, Cond.instanceMethod yX0_standingIf, Cond.selects RX0 yX0_standingIf yX0_standingIf, Cond.code yX0_standingIf cX0_standingIf 6 (some .int), Cond.static yX6_has, Cond.initialized RX6, Cond.code yX6_has cX6_has 2 (some .boolean), Cond.methodLink RX0 95 yX0_targetOf, Cond.instanceMethod yX0_targetOf, Cond.selects RX0 yX0_targetOf yX0_targetOf, Cond.code yX0_targetOf cX0_targetOf 3 (some .int)]
def wsX6_changesIn : List Cond := .code yX6_changesIn cX6_changesIn 4 (some .int) :: ((wsX6_changesIn_r1 ++ wsX6_changesIn_r2) ++ wsX60 ++ wsX00 ++ wsX40)
def wsX6_leastPages : List Cond := .code yX6_leastPages cX6_leastPages 3 (some .int) :: ([.fieldLink RX6 12 "PointAnswers" "now" "LPointAnswers$Bundle;", .methodLink RX6 196 Lib.Math.max.name, .static Lib.Math.max.name, .initialized "java/lang/Math", .code Lib.Math.max.name Lib.Math.max.code 2 (some .int), .instanceMethod yX0_withdrawn, .initialized RX0, .selects RX0 yX0_withdrawn yX0_withdrawn, .code yX0_withdrawn cX0_withdrawn 4 (some .int), .fieldLink RX0 25 "PointAnswers$Bundle" "size" "I", .methodLink RX0 34 yX0_find, .instanceMethod yX0_find, .selects RX0 yX0_find yX0_find, .code yX0_find cX0_find 2 (some (.object "PointAnswers$Point")), .fieldLink RX0 11 "PointAnswers$Bundle" "rows" "[LPointAnswers$Point;", .instanceMethod yX0_pagesOf, .selects RX0 yX0_pagesOf yX0_pagesOf, .code yX0_pagesOf cX0_pagesOf 6 (some .int), .static yX6_has, .initialized RX6, .code yX6_has cX6_has 2 (some .boolean)] ++ wsX60 ++ wsX00 ++ wsX40)
def wsX6_put : List Cond := .code yX6_put cX6_put 5 (some .int) :: ([.fieldLink RX6 26 "PointAnswers" "pad" "LPointAnswers$Pad;", .static yX3_signsIn, .initialized RX3, .code yX3_signsIn cX3_signsIn 4 (some .int), .methodLink RX3 19 yX3_signOf, .static yX3_signOf, .code yX3_signOf cX3_signOf 3 (some .char), .constantLong RX3 23 (255), .instanceMethod yX3_append, .selects RX3 yX3_append yX3_append, .code yX3_append cX3_append 2 none, .fieldLink RX3 15 "PointAnswers$Pad" "length" "I", .fieldLink RX3 9 "PointAnswers$Pad" "signs" "[C"] ++ wsX60 ++ wsX30)
def wsX6_wipe : List Cond := .code yX6_wipe cX6_wipe 1 (some .int) :: ([.fieldLink RX6 26 "PointAnswers" "pad" "LPointAnswers$Pad;", .instanceMethod yX3_empty, .initialized RX3, .selects RX3 yX3_empty yX3_empty, .code yX3_empty cX3_empty 2 (some .int), .fieldLink RX3 15 "PointAnswers$Pad" "length" "I"] ++ wsX60 ++ wsX30)
def wsX6_fault_r1 : List Cond := [Cond.fieldLink RX6 33 "PointAnswers" "reader" "LPointAnswers$Reader;", Cond.fieldLink RX6 26 "PointAnswers" "pad" "LPointAnswers$Pad;", Cond.instanceMethod yX5_firstFault, Cond.initialized RX5, Cond.selects RX5 yX5_firstFault yX5_firstFault, Cond.code yX5_firstFault cX5_firstFault 3 (some .int), Cond.fieldLink RX5 9 "PointAnswers$Reader" "at" "I", Cond.methodLink RX5 15 yX5_rewind, Cond.instanceMethod yX5_rewind, Cond.selects RX5 yX5_rewind yX5_rewind, Cond.code yX5_rewind cX5_rewind 1 none, Cond.methodLink RX5 18 yX5_readOrder, Cond.instanceMethod yX5_readOrder, Cond.selects RX5 yX5_readOrder yX5_readOrder, Cond.code yX5_readOrder cX5_readOrder 2 (some .boolean), Cond.fieldLink RX5 35 "PointAnswers$Reader" "kind" "C", Cond.instanceMethod yX3_signAt, Cond.initialized RX3, Cond.selects RX3 yX3_signAt yX3_signAt, Cond.code yX3_signAt cX3_signAt 2 (some .char), Cond.fieldLink RX3 15 "PointAnswers$Pad" "length" "I", Cond.fieldLink RX3 9 "PointAnswers$Pad" "signs" "[C", Cond.methodLink RX5 39 yX5_readDigit, Cond.instanceMethod yX5_readDigit]
def wsX6_fault_r2 : List Cond := [Cond.selects RX5 yX5_readDigit yX5_readDigit, Cond.code yX5_readDigit cX5_readDigit 4 (some .boolean), Cond.fieldLink RX5 49 "PointAnswers$Reader" "digit" "I", Cond.fieldLink RX5 55 "PointAnswers$Reader" "number" "I", Cond.methodLink RX5 52 yX5_takeDigit, Cond.instanceMethod yX5_takeDigit, Cond.selects RX5 yX5_takeDigit yX5_takeDigit, Cond.code yX5_takeDigit cX5_takeDigit 5 (some .boolean), Cond.methodLink RX5 43 yX5_readPaper, Cond.instanceMethod yX5_readPaper, Cond.selects RX5 yX5_readPaper yX5_readPaper, Cond.code yX5_readPaper cX5_readPaper 2 (some .boolean), Cond.fieldLink RX5 58 "PointAnswers$Reader" "pages" "I", Cond.methodLink RX5 27 yX5_take, Cond.instanceMethod yX5_take, Cond.selects RX5 yX5_take yX5_take, Cond.code yX5_take cX5_take 3 (some .boolean), Cond.methodLink RX5 61 yX5_readCites, Cond.instanceMethod yX5_readCites, Cond.selects RX5 yX5_readCites yX5_readCites, Cond.code yX5_readCites cX5_readCites 3 (some .boolean), Cond.fieldLink RX5 64 "PointAnswers$Reader" "cases" "I", Cond.methodLink RX5 46 yX5_readNumber, Cond.instanceMethod yX5_readNumber]
def wsX6_fault_r3 : List Cond := [Cond.selects RX5 yX5_readNumber yX5_readNumber, Cond.code yX5_readNumber cX5_readNumber 2 (some .boolean)]
def wsX6_fault : List Cond := .code yX6_fault cX6_fault 1 (some .int) :: ((wsX6_fault_r1 ++ (wsX6_fault_r2 ++ wsX6_fault_r3)) ++ wsX60 ++ wsX50 ++ wsX30)
def wsX6_follow_r1 : List Cond := [Cond.fieldLink RX6 33 "PointAnswers" "reader" "LPointAnswers$Reader;", Cond.fieldLink RX6 12 "PointAnswers" "now" "LPointAnswers$Bundle;", Cond.instanceMethod yX0_fileClaim, Cond.initialized RX0, Cond.selects RX0 yX0_fileClaim yX0_fileClaim, Cond.code yX0_fileClaim cX0_fileClaim 4 (some .int), Cond.methodLink RX0 42 yX0_canBeFiled, Cond.static yX0_canBeFiled, Cond.code yX0_canBeFiled cX0_canBeFiled 2 (some .boolean), Cond.methodLink RX0 46 yX0_file, Cond.instanceMethod yX0_file, Cond.selects RX0 yX0_file yX0_file, Cond.code yX0_file cX0_file 6 (some .int), Cond.fieldLink RX0 28 "PointAnswers$Bundle" "day" "I", Cond.fieldLink RX0 25 "PointAnswers$Bundle" "size" "I", Cond.methodLink RX0 50 yX0_freeRow, Cond.instanceMethod yX0_freeRow, Cond.selects RX0 yX0_freeRow yX0_freeRow, Cond.code yX0_freeRow cX0_freeRow 1 (some (.object "PointAnswers$Point")), Cond.fieldLink RX0 11 "PointAnswers$Bundle" "rows" "[LPointAnswers$Point;", Cond.instanceMethod yX0_fileAnswer, Cond.selects RX0 yX0_fileAnswer yX0_fileAnswer, Cond.code yX0_fileAnswer cX0_fileAnswer 5 (some .int), Cond.methodLink RX0 34 yX0_find]
def wsX6_follow_r2 : List Cond := [Cond.instanceMethod yX0_find, Cond.selects RX0 yX0_find yX0_find, Cond.code yX0_find cX0_find 2 (some (.object "PointAnswers$Point")), Cond.instanceMethod yX0_takeBack, Cond.selects RX0 yX0_takeBack yX0_takeBack, Cond.code yX0_takeBack cX0_takeBack 3 (some .int), Cond.methodLink RX0 76 yX0_standing, Cond.instanceMethod yX0_standing, Cond.selects RX0 yX0_standing yX0_standing, Cond.code yX0_standing cX0_standing 1 (some .int), Cond.methodLink RX0 109 yX0_out, Cond.instanceMethod yX0_out, Cond.selects RX0 yX0_out yX0_out, Cond.code yX0_out cX0_out 1 (some .int), Cond.methodLink RX0 98 yX0_withdrawn, Cond.instanceMethod yX0_withdrawn, Cond.selects RX0 yX0_withdrawn yX0_withdrawn, Cond.code yX0_withdrawn cX0_withdrawn 4 (some .int), Cond.methodLink RX0 100 yX0_struck, Cond.instanceMethod yX0_struck, Cond.selects RX0 yX0_struck yX0_struck, Cond.code yX0_struck cX0_struck 6 (some .int), Cond.fieldLink RX0 21 "PointAnswers$Bundle" "allowedPages" "I", Cond.methodLink RX0 103 yX0_lapsedOn]
def wsX6_follow_r3 : List Cond := [Cond.instanceMethod yX0_lapsedOn, Cond.selects RX0 yX0_lapsedOn yX0_lapsedOn, Cond.code yX0_lapsedOn cX0_lapsedOn 5 (some .int), Cond.fieldLink RX0 17 "PointAnswers$Bundle" "lapse" "I", Cond.methodLink RX0 106 yX0_baseless, Cond.instanceMethod yX0_baseless, Cond.selects RX0 yX0_baseless yX0_baseless, Cond.code yX0_baseless cX0_baseless 4 (some .int), Cond.fieldLink RX0 31 "PointAnswers$Bundle" "overruled" "I", Cond.methodLink RX0 112 yX0_standingIf, Cond.instanceMethod yX0_standingIf, Cond.selects RX0 yX0_standingIf yX0_standingIf, Cond.code yX0_standingIf cX0_standingIf 6 (some .int), Cond.static yX6_has, Cond.initialized RX6, Cond.code yX6_has cX6_has 2 (some .boolean), Cond.methodLink RX0 95 yX0_targetOf, Cond.instanceMethod yX0_targetOf, Cond.selects RX0 yX0_targetOf yX0_targetOf, Cond.code yX0_targetOf cX0_targetOf 3 (some .int), Cond.methodLink RX0 80 yJ6_bitCount_0f7a4, Cond.static yJ6_bitCount_0f7a4, Cond.initialized RJ6, Cond.code yJ6_bitCount_0f7a4 cJ6_bitCount_0f7a4 1 (some .int)]
def wsX6_follow_r4 : List Cond := [Cond.constant RJ6 265 (1431655765), Cond.constant RJ6 266 (858993459), Cond.constant RJ6 267 (252645135), Cond.instanceMethod yX0_prolong, Cond.selects RX0 yX0_prolong yX0_prolong, Cond.code yX0_prolong cX0_prolong 4 (some .int), Cond.instanceMethod yX0_turnCase, Cond.selects RX0 yX0_turnCase yX0_turnCase, Cond.code yX0_turnCase cX0_turnCase 2 (some .int), Cond.instanceMethod yX0_moveOn, Cond.selects RX0 yX0_moveOn yX0_moveOn, Cond.code yX0_moveOn cX0_moveOn 2 (some .int)]
def wsX6_follow : List Cond := .code yX6_follow cX6_follow 1 (some .int) :: ((wsX6_follow_r1 ++ (wsX6_follow_r2 ++ (wsX6_follow_r3 ++ wsX6_follow_r4))) ++ wsX60 ++ wsX50 ++ wsX40 ++ wsX00)
def wsX6_carryOut_r1 : List Cond := [Cond.fieldLink RX6 33 "PointAnswers" "reader" "LPointAnswers$Reader;", Cond.fieldLink RX6 26 "PointAnswers" "pad" "LPointAnswers$Pad;", Cond.fieldLink RX6 40 "PointAnswers" "history" "LPointAnswers$History;", Cond.fieldLink RX6 12 "PointAnswers" "now" "LPointAnswers$Bundle;", Cond.instanceMethod yX5_firstFault, Cond.initialized RX5, Cond.selects RX5 yX5_firstFault yX5_firstFault, Cond.code yX5_firstFault cX5_firstFault 3 (some .int), Cond.fieldLink RX5 9 "PointAnswers$Reader" "at" "I", Cond.methodLink RX5 15 yX5_rewind, Cond.instanceMethod yX5_rewind, Cond.selects RX5 yX5_rewind yX5_rewind, Cond.code yX5_rewind cX5_rewind 1 none, Cond.methodLink RX5 18 yX5_readOrder, Cond.instanceMethod yX5_readOrder, Cond.selects RX5 yX5_readOrder yX5_readOrder, Cond.code yX5_readOrder cX5_readOrder 2 (some .boolean), Cond.fieldLink RX5 35 "PointAnswers$Reader" "kind" "C", Cond.instanceMethod yX3_signAt, Cond.initialized RX3, Cond.selects RX3 yX3_signAt yX3_signAt, Cond.code yX3_signAt cX3_signAt 2 (some .char), Cond.fieldLink RX3 15 "PointAnswers$Pad" "length" "I", Cond.fieldLink RX3 9 "PointAnswers$Pad" "signs" "[C"]
def wsX6_carryOut_r2 : List Cond := [Cond.methodLink RX5 39 yX5_readDigit, Cond.instanceMethod yX5_readDigit, Cond.selects RX5 yX5_readDigit yX5_readDigit, Cond.code yX5_readDigit cX5_readDigit 4 (some .boolean), Cond.fieldLink RX5 49 "PointAnswers$Reader" "digit" "I", Cond.fieldLink RX5 55 "PointAnswers$Reader" "number" "I", Cond.methodLink RX5 52 yX5_takeDigit, Cond.instanceMethod yX5_takeDigit, Cond.selects RX5 yX5_takeDigit yX5_takeDigit, Cond.code yX5_takeDigit cX5_takeDigit 5 (some .boolean), Cond.methodLink RX5 43 yX5_readPaper, Cond.instanceMethod yX5_readPaper, Cond.selects RX5 yX5_readPaper yX5_readPaper, Cond.code yX5_readPaper cX5_readPaper 2 (some .boolean), Cond.fieldLink RX5 58 "PointAnswers$Reader" "pages" "I", Cond.methodLink RX5 27 yX5_take, Cond.instanceMethod yX5_take, Cond.selects RX5 yX5_take yX5_take, Cond.code yX5_take cX5_take 3 (some .boolean), Cond.methodLink RX5 61 yX5_readCites, Cond.instanceMethod yX5_readCites, Cond.selects RX5 yX5_readCites yX5_readCites, Cond.code yX5_readCites cX5_readCites 3 (some .boolean), Cond.fieldLink RX5 64 "PointAnswers$Reader" "cases" "I"]
def wsX6_carryOut_r3 : List Cond := [Cond.methodLink RX5 46 yX5_readNumber, Cond.instanceMethod yX5_readNumber, Cond.selects RX5 yX5_readNumber yX5_readNumber, Cond.code yX5_readNumber cX5_readNumber 2 (some .boolean), Cond.instanceMethod yX2_prepare, Cond.initialized RX2, Cond.selects RX2 yX2_prepare yX2_prepare, Cond.code yX2_prepare cX2_prepare 3 none, Cond.fieldLink RX2 18 "PointAnswers$History" "kept" "I", Cond.methodLink RX2 22 yX2_rowAt, Cond.instanceMethod yX2_rowAt, Cond.selects RX2 yX2_rowAt yX2_rowAt, Cond.code yX2_rowAt cX2_rowAt 2 (some (.object "PointAnswers$Bundle")), Cond.fieldLink RX2 11 "PointAnswers$History" "rows" "[LPointAnswers$Bundle;", Cond.instanceMethod yX0_become, Cond.initialized RX0, Cond.selects RX0 yX0_become yX0_become, Cond.code yX0_become cX0_become 5 none, Cond.fieldLink RX0 25 "PointAnswers$Bundle" "size" "I", Cond.fieldLink RX0 28 "PointAnswers$Bundle" "day" "I", Cond.fieldLink RX0 31 "PointAnswers$Bundle" "overruled" "I", Cond.fieldLink RX0 17 "PointAnswers$Bundle" "lapse" "I", Cond.fieldLink RX0 21 "PointAnswers$Bundle" "allowedPages" "I", Cond.fieldLink RX0 11 "PointAnswers$Bundle" "rows" "[LPointAnswers$Point;"]
def wsX6_carryOut_r4 : List Cond := [Cond.methodLink RX0 34 yX0_find, Cond.instanceMethod yX0_find, Cond.selects RX0 yX0_find yX0_find, Cond.code yX0_find cX0_find 2 (some (.object "PointAnswers$Point")), Cond.instanceMethod yX4_become, Cond.initialized RX4, Cond.selects RX4 yX4_become yX4_become, Cond.code yX4_become cX4_become 2 none, Cond.fieldLink RX4 7 "PointAnswers$Point" "side" "I", Cond.fieldLink RX4 13 "PointAnswers$Point" "pages" "I", Cond.fieldLink RX4 16 "PointAnswers$Point" "cases" "I", Cond.fieldLink RX4 19 "PointAnswers$Point" "target" "I", Cond.fieldLink RX4 22 "PointAnswers$Point" "filed" "I", Cond.fieldLink RX4 25 "PointAnswers$Point" "lastsFrom" "I", Cond.fieldLink RX4 28 "PointAnswers$Point" "withdrawn" "Z", Cond.methodLink RX6 227 yX6_follow, Cond.instanceMethod yX6_follow, Cond.selects RX6 yX6_follow yX6_follow, Cond.initialized RX6, Cond.code yX6_follow cX6_follow 1 (some .int), Cond.instanceMethod yX0_fileClaim, Cond.selects RX0 yX0_fileClaim yX0_fileClaim, Cond.code yX0_fileClaim cX0_fileClaim 4 (some .int), Cond.methodLink RX0 42 yX0_canBeFiled]
def wsX6_carryOut_r5 : List Cond := [Cond.static yX0_canBeFiled, Cond.code yX0_canBeFiled cX0_canBeFiled 2 (some .boolean), Cond.methodLink RX0 46 yX0_file, Cond.instanceMethod yX0_file, Cond.selects RX0 yX0_file yX0_file, Cond.code yX0_file cX0_file 6 (some .int), Cond.methodLink RX0 50 yX0_freeRow, Cond.instanceMethod yX0_freeRow, Cond.selects RX0 yX0_freeRow yX0_freeRow, Cond.code yX0_freeRow cX0_freeRow 1 (some (.object "PointAnswers$Point")), Cond.instanceMethod yX0_fileAnswer, Cond.selects RX0 yX0_fileAnswer yX0_fileAnswer, Cond.code yX0_fileAnswer cX0_fileAnswer 5 (some .int), Cond.instanceMethod yX0_takeBack, Cond.selects RX0 yX0_takeBack yX0_takeBack, Cond.code yX0_takeBack cX0_takeBack 3 (some .int), Cond.methodLink RX0 76 yX0_standing, Cond.instanceMethod yX0_standing, Cond.selects RX0 yX0_standing yX0_standing, Cond.code yX0_standing cX0_standing 1 (some .int), Cond.methodLink RX0 109 yX0_out, Cond.instanceMethod yX0_out, Cond.selects RX0 yX0_out yX0_out, Cond.code yX0_out cX0_out 1 (some .int)]
def wsX6_carryOut_r6 : List Cond := [Cond.methodLink RX0 98 yX0_withdrawn, Cond.instanceMethod yX0_withdrawn, Cond.selects RX0 yX0_withdrawn yX0_withdrawn, Cond.code yX0_withdrawn cX0_withdrawn 4 (some .int), Cond.methodLink RX0 100 yX0_struck, Cond.instanceMethod yX0_struck, Cond.selects RX0 yX0_struck yX0_struck, Cond.code yX0_struck cX0_struck 6 (some .int), Cond.methodLink RX0 103 yX0_lapsedOn, Cond.instanceMethod yX0_lapsedOn, Cond.selects RX0 yX0_lapsedOn yX0_lapsedOn, Cond.code yX0_lapsedOn cX0_lapsedOn 5 (some .int), Cond.methodLink RX0 106 yX0_baseless, Cond.instanceMethod yX0_baseless, Cond.selects RX0 yX0_baseless yX0_baseless, Cond.code yX0_baseless cX0_baseless 4 (some .int), Cond.methodLink RX0 112 yX0_standingIf, Cond.instanceMethod yX0_standingIf, Cond.selects RX0 yX0_standingIf yX0_standingIf, Cond.code yX0_standingIf cX0_standingIf 6 (some .int), Cond.static yX6_has, Cond.code yX6_has cX6_has 2 (some .boolean), Cond.methodLink RX0 95 yX0_targetOf, Cond.instanceMethod yX0_targetOf]
def wsX6_carryOut_r7 : List Cond := [Cond.selects RX0 yX0_targetOf yX0_targetOf, Cond.code yX0_targetOf cX0_targetOf 3 (some .int), Cond.methodLink RX0 80 yJ6_bitCount_0f7a4, Cond.static yJ6_bitCount_0f7a4, Cond.initialized RJ6, Cond.code yJ6_bitCount_0f7a4 cJ6_bitCount_0f7a4 1 (some .int), Cond.constant RJ6 265 (1431655765), Cond.constant RJ6 266 (858993459), Cond.constant RJ6 267 (252645135), Cond.instanceMethod yX0_prolong, Cond.selects RX0 yX0_prolong yX0_prolong, Cond.code yX0_prolong cX0_prolong 4 (some .int), Cond.instanceMethod yX0_turnCase, Cond.selects RX0 yX0_turnCase yX0_turnCase, Cond.code yX0_turnCase cX0_turnCase 2 (some .int), Cond.instanceMethod yX0_moveOn, Cond.selects RX0 yX0_moveOn yX0_moveOn, Cond.code yX0_moveOn cX0_moveOn 2 (some .int), Cond.instanceMethod yX3_empty, Cond.selects RX3 yX3_empty yX3_empty, Cond.code yX3_empty cX3_empty 2 (some .int), Cond.instanceMethod yX2_settle, Cond.selects RX2 yX2_settle yX2_settle, Cond.code yX2_settle cX2_settle 2 (some .int)]
def wsX6_carryOut_r8 : List Cond := [Cond.methodLink RX2 30 yX2_dropOldest, Cond.instanceMethod yX2_dropOldest, Cond.selects RX2 yX2_dropOldest yX2_dropOldest, Cond.code yX2_dropOldest cX2_dropOldest 3 none]
def wsX6_carryOut : List Cond := .code yX6_carryOut cX6_carryOut 2 (some .int) :: ((wsX6_carryOut_r1 ++ (wsX6_carryOut_r2 ++ (wsX6_carryOut_r3 ++ (wsX6_carryOut_r4 ++ (wsX6_carryOut_r5 ++ (wsX6_carryOut_r6 ++ (wsX6_carryOut_r7 ++ wsX6_carryOut_r8))))))) ++ wsX60 ++ wsX50 ++ wsX30 ++ wsX20 ++ wsX00 ++ wsX40)
def wsX6_undo_r1 : List Cond := [Cond.fieldLink RX6 40 "PointAnswers" "history" "LPointAnswers$History;", Cond.fieldLink RX6 12 "PointAnswers" "now" "LPointAnswers$Bundle;", Cond.instanceMethod yX2_bringBack, Cond.initialized RX2, Cond.selects RX2 yX2_bringBack yX2_bringBack, Cond.code yX2_bringBack cX2_bringBack 3 (some .int), Cond.fieldLink RX2 18 "PointAnswers$History" "kept" "I", Cond.methodLink RX2 22 yX2_rowAt, Cond.instanceMethod yX2_rowAt, Cond.selects RX2 yX2_rowAt yX2_rowAt, Cond.code yX2_rowAt cX2_rowAt 2 (some (.object "PointAnswers$Bundle")), Cond.fieldLink RX2 11 "PointAnswers$History" "rows" "[LPointAnswers$Bundle;", Cond.instanceMethod yX0_become, Cond.initialized RX0, Cond.selects RX0 yX0_become yX0_become, Cond.code yX0_become cX0_become 5 none, Cond.fieldLink RX0 25 "PointAnswers$Bundle" "size" "I", Cond.fieldLink RX0 28 "PointAnswers$Bundle" "day" "I", Cond.fieldLink RX0 31 "PointAnswers$Bundle" "overruled" "I", Cond.fieldLink RX0 17 "PointAnswers$Bundle" "lapse" "I", Cond.fieldLink RX0 21 "PointAnswers$Bundle" "allowedPages" "I", Cond.fieldLink RX0 11 "PointAnswers$Bundle" "rows" "[LPointAnswers$Point;", Cond.methodLink RX0 34 yX0_find, Cond.instanceMethod yX0_find]
def wsX6_undo_r2 : List Cond := [Cond.selects RX0 yX0_find yX0_find, Cond.code yX0_find cX0_find 2 (some (.object "PointAnswers$Point")), Cond.instanceMethod yX4_become, Cond.initialized RX4, Cond.selects RX4 yX4_become yX4_become, Cond.code yX4_become cX4_become 2 none, Cond.fieldLink RX4 7 "PointAnswers$Point" "side" "I", Cond.fieldLink RX4 13 "PointAnswers$Point" "pages" "I", Cond.fieldLink RX4 16 "PointAnswers$Point" "cases" "I", Cond.fieldLink RX4 19 "PointAnswers$Point" "target" "I", Cond.fieldLink RX4 22 "PointAnswers$Point" "filed" "I", Cond.fieldLink RX4 25 "PointAnswers$Point" "lastsFrom" "I", Cond.fieldLink RX4 28 "PointAnswers$Point" "withdrawn" "Z"]
def wsX6_undo : List Cond := .code yX6_undo cX6_undo 1 (some .int) :: ((wsX6_undo_r1 ++ wsX6_undo_r2) ++ wsX60 ++ wsX20 ++ wsX00 ++ wsX40)
def wsX6_slotRow : List Cond := .code yX6_slotRow cX6_slotRow 2 (some (.object "PointAnswers$Bundle")) :: ([.fieldLink RX6 44 "PointAnswers" "slots" "[LPointAnswers$Bundle;"] ++ wsX60)
def wsX6_save_r1 : List Cond := [Cond.fieldLink RX6 12 "PointAnswers" "now" "LPointAnswers$Bundle;", Cond.fieldLink RX6 245 "PointAnswers" "savedSlots" "I", Cond.methodLink RX6 238 yX6_slotRow, Cond.instanceMethod yX6_slotRow, Cond.selects RX6 yX6_slotRow yX6_slotRow, Cond.initialized RX6, Cond.code yX6_slotRow cX6_slotRow 2 (some (.object "PointAnswers$Bundle")), Cond.fieldLink RX6 44 "PointAnswers" "slots" "[LPointAnswers$Bundle;", Cond.instanceMethod yX0_become, Cond.initialized RX0, Cond.selects RX0 yX0_become yX0_become, Cond.code yX0_become cX0_become 5 none, Cond.fieldLink RX0 25 "PointAnswers$Bundle" "size" "I", Cond.fieldLink RX0 28 "PointAnswers$Bundle" "day" "I", Cond.fieldLink RX0 31 "PointAnswers$Bundle" "overruled" "I", Cond.fieldLink RX0 17 "PointAnswers$Bundle" "lapse" "I", Cond.fieldLink RX0 21 "PointAnswers$Bundle" "allowedPages" "I", Cond.fieldLink RX0 11 "PointAnswers$Bundle" "rows" "[LPointAnswers$Point;", Cond.methodLink RX0 34 yX0_find, Cond.instanceMethod yX0_find, Cond.selects RX0 yX0_find yX0_find, Cond.code yX0_find cX0_find 2 (some (.object "PointAnswers$Point")), Cond.instanceMethod yX4_become, Cond.initialized RX4]
def wsX6_save_r2 : List Cond := [Cond.selects RX4 yX4_become yX4_become, Cond.code yX4_become cX4_become 2 none, Cond.fieldLink RX4 7 "PointAnswers$Point" "side" "I", Cond.fieldLink RX4 13 "PointAnswers$Point" "pages" "I", Cond.fieldLink RX4 16 "PointAnswers$Point" "cases" "I", Cond.fieldLink RX4 19 "PointAnswers$Point" "target" "I", Cond.fieldLink RX4 22 "PointAnswers$Point" "filed" "I", Cond.fieldLink RX4 25 "PointAnswers$Point" "lastsFrom" "I", Cond.fieldLink RX4 28 "PointAnswers$Point" "withdrawn" "Z"]
def wsX6_save : List Cond := .code yX6_save cX6_save 3 (some .int) :: ((wsX6_save_r1 ++ wsX6_save_r2) ++ wsX60 ++ wsX00 ++ wsX40)
def wsX6_restore_r1 : List Cond := [Cond.fieldLink RX6 245 "PointAnswers" "savedSlots" "I", Cond.fieldLink RX6 40 "PointAnswers" "history" "LPointAnswers$History;", Cond.fieldLink RX6 12 "PointAnswers" "now" "LPointAnswers$Bundle;", Cond.methodLink RX6 238 yX6_slotRow, Cond.instanceMethod yX6_slotRow, Cond.selects RX6 yX6_slotRow yX6_slotRow, Cond.initialized RX6, Cond.code yX6_slotRow cX6_slotRow 2 (some (.object "PointAnswers$Bundle")), Cond.fieldLink RX6 44 "PointAnswers" "slots" "[LPointAnswers$Bundle;", Cond.methodLink RX6 105 yX6_has, Cond.static yX6_has, Cond.code yX6_has cX6_has 2 (some .boolean), Cond.instanceMethod yX2_prepare, Cond.initialized RX2, Cond.selects RX2 yX2_prepare yX2_prepare, Cond.code yX2_prepare cX2_prepare 3 none, Cond.fieldLink RX2 18 "PointAnswers$History" "kept" "I", Cond.methodLink RX2 22 yX2_rowAt, Cond.instanceMethod yX2_rowAt, Cond.selects RX2 yX2_rowAt yX2_rowAt, Cond.code yX2_rowAt cX2_rowAt 2 (some (.object "PointAnswers$Bundle")), Cond.fieldLink RX2 11 "PointAnswers$History" "rows" "[LPointAnswers$Bundle;", Cond.instanceMethod yX0_become, Cond.initialized RX0]
def wsX6_restore_r2 : List Cond := [Cond.selects RX0 yX0_become yX0_become, Cond.code yX0_become cX0_become 5 none, Cond.fieldLink RX0 25 "PointAnswers$Bundle" "size" "I", Cond.fieldLink RX0 28 "PointAnswers$Bundle" "day" "I", Cond.fieldLink RX0 31 "PointAnswers$Bundle" "overruled" "I", Cond.fieldLink RX0 17 "PointAnswers$Bundle" "lapse" "I", Cond.fieldLink RX0 21 "PointAnswers$Bundle" "allowedPages" "I", Cond.fieldLink RX0 11 "PointAnswers$Bundle" "rows" "[LPointAnswers$Point;", Cond.methodLink RX0 34 yX0_find, Cond.instanceMethod yX0_find, Cond.selects RX0 yX0_find yX0_find, Cond.code yX0_find cX0_find 2 (some (.object "PointAnswers$Point")), Cond.instanceMethod yX4_become, Cond.initialized RX4, Cond.selects RX4 yX4_become yX4_become, Cond.code yX4_become cX4_become 2 none, Cond.fieldLink RX4 7 "PointAnswers$Point" "side" "I", Cond.fieldLink RX4 13 "PointAnswers$Point" "pages" "I", Cond.fieldLink RX4 16 "PointAnswers$Point" "cases" "I", Cond.fieldLink RX4 19 "PointAnswers$Point" "target" "I", Cond.fieldLink RX4 22 "PointAnswers$Point" "filed" "I", Cond.fieldLink RX4 25 "PointAnswers$Point" "lastsFrom" "I", Cond.fieldLink RX4 28 "PointAnswers$Point" "withdrawn" "Z", Cond.instanceMethod yX2_settle]
def wsX6_restore_r3 : List Cond := [Cond.selects RX2 yX2_settle yX2_settle, Cond.code yX2_settle cX2_settle 2 (some .int), Cond.methodLink RX2 30 yX2_dropOldest, Cond.instanceMethod yX2_dropOldest, Cond.selects RX2 yX2_dropOldest yX2_dropOldest, Cond.code yX2_dropOldest cX2_dropOldest 3 none]
def wsX6_restore : List Cond := .code yX6_restore cX6_restore 3 (some .int) :: ((wsX6_restore_r1 ++ (wsX6_restore_r2 ++ wsX6_restore_r3)) ++ wsX60 ++ wsX00 ++ wsX20 ++ wsX40)
def wsX7_init : List Cond := .code yX7_init cX7_init 1 none :: ([.methodLink RX7 1 objectInit, .instanceMethod objectInit, .code objectInit ⟨#[0xb1]⟩ 1 none, .arrayClass .int, .fieldLink RX7 7 "PointAnswersModel" "z" "[I", .fieldLink RX7 13 "PointAnswersModel" "past" "[I", .fieldLink RX7 16 "PointAnswersModel" "slots" "[I", .arrayClass .boolean, .fieldLink RX7 19 "PointAnswersModel" "isSaved" "[Z", .arrayClass .char, .fieldLink RX7 23 "PointAnswersModel" "pad" "[C", .fieldLink RX7 27 "PointAnswersModel" "why" "[I", .fieldLink RX7 30 "PointAnswersModel" "taken" "[I", .fieldLink RX7 33 "PointAnswersModel" "stands" "[I", .fieldLink RX7 36 "PointAnswersModel" "falls" "[I", .fieldLink RX7 39 "PointAnswersModel" "orders" "[I"] ++ wsX70)
def wsX7_in : List Cond := .code yX7_in cX7_in 3 (some .boolean) :: ([])
def wsX7_isPoint : List Cond := .code yX7_isPoint cX7_isPoint 2 (some .boolean) :: ([.fieldLink RX7 7 "PointAnswersModel" "z" "[I"] ++ wsX70)
def wsX7_its : List Cond := .code yX7_its cX7_its 3 (some .int) :: ([.fieldLink RX7 7 "PointAnswersModel" "z" "[I"] ++ wsX70)
def wsX7_lay : List Cond := .code yX7_lay cX7_lay 4 none :: ([.fieldLink RX7 7 "PointAnswersModel" "z" "[I"] ++ wsX70)
def wsX7_isClaim : List Cond := .code yX7_isClaim cX7_isClaim 2 (some .boolean) :: ([.methodLink RX7 42 yX7_its, .instanceMethod yX7_its, .selects RX7 yX7_its yX7_its, .initialized RX7, .code yX7_its cX7_its 3 (some .int), .fieldLink RX7 7 "PointAnswersModel" "z" "[I"] ++ wsX70)
def wsX7_isWithdrawn : List Cond := .code yX7_isWithdrawn cX7_isWithdrawn 2 (some .boolean) :: ([.methodLink RX7 42 yX7_its, .instanceMethod yX7_its, .selects RX7 yX7_its yX7_its, .initialized RX7, .code yX7_its cX7_its 3 (some .int), .fieldLink RX7 7 "PointAnswersModel" "z" "[I"] ++ wsX70)
def wsX7_bits : List Cond := .code yX7_bits cX7_bits 3 (some .int) :: ([])
def wsX7_record : List Cond := .code yX7_record cX7_record 2 none :: ([.fieldLink RX7 46 "PointAnswersModel" "pastMany" "I", .fieldLink RX7 13 "PointAnswersModel" "past" "[I", .fieldLink RX7 7 "PointAnswersModel" "z" "[I"] ++ wsX70)
def wsX7_undo : List Cond := .code yX7_undo cX7_undo 2 (some .int) :: ([.fieldLink RX7 46 "PointAnswersModel" "pastMany" "I", .fieldLink RX7 7 "PointAnswersModel" "z" "[I", .fieldLink RX7 13 "PointAnswersModel" "past" "[I"] ++ wsX70)
def wsX7_save : List Cond := .code yX7_save cX7_save 3 (some .int) :: ([.fieldLink RX7 19 "PointAnswersModel" "isSaved" "[Z", .fieldLink RX7 16 "PointAnswersModel" "slots" "[I", .fieldLink RX7 7 "PointAnswersModel" "z" "[I", .methodLink RX7 50 yX7_in, .static yX7_in, .initialized RX7, .code yX7_in cX7_in 3 (some .boolean)] ++ wsX70)
def wsX7_restore : List Cond := .code yX7_restore cX7_restore 3 (some .int) :: ([.fieldLink RX7 19 "PointAnswersModel" "isSaved" "[Z", .fieldLink RX7 7 "PointAnswersModel" "z" "[I", .fieldLink RX7 16 "PointAnswersModel" "slots" "[I", .methodLink RX7 50 yX7_in, .static yX7_in, .initialized RX7, .code yX7_in cX7_in 3 (some .boolean), .methodLink RX7 54 yX7_record, .instanceMethod yX7_record, .selects RX7 yX7_record yX7_record, .code yX7_record cX7_record 2 none, .fieldLink RX7 46 "PointAnswersModel" "pastMany" "I", .fieldLink RX7 13 "PointAnswersModel" "past" "[I"] ++ wsX70)
def wsX7_lapsed : List Cond := .code yX7_lapsed cX7_lapsed 2 (some .boolean) :: ([.fieldLink RX7 7 "PointAnswersModel" "z" "[I", .methodLink RX7 57 yX7_isClaim, .instanceMethod yX7_isClaim, .selects RX7 yX7_isClaim yX7_isClaim, .initialized RX7, .code yX7_isClaim cX7_isClaim 2 (some .boolean), .methodLink RX7 42 yX7_its, .instanceMethod yX7_its, .selects RX7 yX7_its yX7_its, .code yX7_its cX7_its 3 (some .int)] ++ wsX70)
def wsX7_hasNoCase : List Cond := .code yX7_hasNoCase cX7_hasNoCase 2 (some .boolean) :: ([.fieldLink RX7 7 "PointAnswersModel" "z" "[I", .methodLink RX7 42 yX7_its, .instanceMethod yX7_its, .selects RX7 yX7_its yX7_its, .initialized RX7, .code yX7_its cX7_its 3 (some .int)] ++ wsX70)
def wsX7_layOut : List Cond := .code yX7_layOut cX7_layOut 4 none :: ([.fieldLink RX7 30 "PointAnswersModel" "taken" "[I", .fieldLink RX7 7 "PointAnswersModel" "z" "[I", .fieldLink RX7 27 "PointAnswersModel" "why" "[I", .methodLink RX7 42 yX7_its, .instanceMethod yX7_its, .selects RX7 yX7_its yX7_its, .initialized RX7, .code yX7_its cX7_its 3 (some .int), .methodLink RX7 61 yX7_isWithdrawn, .instanceMethod yX7_isWithdrawn, .selects RX7 yX7_isWithdrawn yX7_isWithdrawn, .code yX7_isWithdrawn cX7_isWithdrawn 2 (some .boolean), .methodLink RX7 64 yX7_lapsed, .instanceMethod yX7_lapsed, .selects RX7 yX7_lapsed yX7_lapsed, .code yX7_lapsed cX7_lapsed 2 (some .boolean), .methodLink RX7 57 yX7_isClaim, .instanceMethod yX7_isClaim, .selects RX7 yX7_isClaim yX7_isClaim, .code yX7_isClaim cX7_isClaim 2 (some .boolean), .methodLink RX7 67 yX7_hasNoCase, .instanceMethod yX7_hasNoCase, .selects RX7 yX7_hasNoCase yX7_hasNoCase, .code yX7_hasNoCase cX7_hasNoCase 2 (some .boolean)] ++ wsX70)
def wsX7_layAnswered : List Cond := .code yX7_layAnswered cX7_layAnswered 5 none :: ([.fieldLink RX7 7 "PointAnswersModel" "z" "[I", .fieldLink RX7 27 "PointAnswersModel" "why" "[I", .methodLink RX7 42 yX7_its, .instanceMethod yX7_its, .selects RX7 yX7_its yX7_its, .initialized RX7, .code yX7_its cX7_its 3 (some .int)] ++ wsX70)
def wsX7_look_r1 : List Cond := [Cond.methodLink RX7 70 yX7_layOut, Cond.instanceMethod yX7_layOut, Cond.selects RX7 yX7_layOut yX7_layOut, Cond.initialized RX7, Cond.code yX7_layOut cX7_layOut 4 none, Cond.fieldLink RX7 30 "PointAnswersModel" "taken" "[I", Cond.fieldLink RX7 7 "PointAnswersModel" "z" "[I", Cond.fieldLink RX7 27 "PointAnswersModel" "why" "[I", Cond.methodLink RX7 42 yX7_its, Cond.instanceMethod yX7_its, Cond.selects RX7 yX7_its yX7_its, Cond.code yX7_its cX7_its 3 (some .int), Cond.methodLink RX7 61 yX7_isWithdrawn, Cond.instanceMethod yX7_isWithdrawn, Cond.selects RX7 yX7_isWithdrawn yX7_isWithdrawn, Cond.code yX7_isWithdrawn cX7_isWithdrawn 2 (some .boolean), Cond.methodLink RX7 64 yX7_lapsed, Cond.instanceMethod yX7_lapsed, Cond.selects RX7 yX7_lapsed yX7_lapsed, Cond.code yX7_lapsed cX7_lapsed 2 (some .boolean), Cond.methodLink RX7 57 yX7_isClaim, Cond.instanceMethod yX7_isClaim, Cond.selects RX7 yX7_isClaim yX7_isClaim, Cond.code yX7_isClaim cX7_isClaim 2 (some .boolean)]
def wsX7_look_r2 : List Cond := [Cond.methodLink RX7 67 yX7_hasNoCase, Cond.instanceMethod yX7_hasNoCase, Cond.selects RX7 yX7_hasNoCase yX7_hasNoCase, Cond.code yX7_hasNoCase cX7_hasNoCase 2 (some .boolean), Cond.methodLink RX7 73 yX7_layAnswered, Cond.instanceMethod yX7_layAnswered, Cond.selects RX7 yX7_layAnswered yX7_layAnswered, Cond.code yX7_layAnswered cX7_layAnswered 5 none]
def wsX7_look : List Cond := .code yX7_look cX7_look 1 none :: ((wsX7_look_r1 ++ wsX7_look_r2) ++ wsX70)
def wsX7_standing : List Cond := .code yX7_standing cX7_standing 3 (some .int) :: ([.fieldLink RX7 7 "PointAnswersModel" "z" "[I", .fieldLink RX7 27 "PointAnswersModel" "why" "[I"] ++ wsX70)
def wsX7_claims : List Cond := .code yX7_claims cX7_claims 3 (some .int) :: ([.fieldLink RX7 7 "PointAnswersModel" "z" "[I", .methodLink RX7 57 yX7_isClaim, .instanceMethod yX7_isClaim, .selects RX7 yX7_isClaim yX7_isClaim, .initialized RX7, .code yX7_isClaim cX7_isClaim 2 (some .boolean), .methodLink RX7 42 yX7_its, .instanceMethod yX7_its, .selects RX7 yX7_its yX7_its, .code yX7_its cX7_its 3 (some .int)] ++ wsX70)
def wsX7_answersTo : List Cond := .code yX7_answersTo cX7_answersTo 4 (some .int) :: ([.fieldLink RX7 7 "PointAnswersModel" "z" "[I", .methodLink RX7 42 yX7_its, .instanceMethod yX7_its, .selects RX7 yX7_its yX7_its, .initialized RX7, .code yX7_its cX7_its 3 (some .int)] ++ wsX70)
def wsX7_isValue : List Cond := .code yX7_isValue cX7_isValue 2 (some .boolean) :: ([.methodLink RX7 50 yX7_in, .static yX7_in, .initialized RX7, .code yX7_in cX7_in 3 (some .boolean)])
def wsX7_set : List Cond := .code yX7_set cX7_set 4 (some .int) :: ([.fieldLink RX7 7 "PointAnswersModel" "z" "[I", .methodLink RX7 50 yX7_in, .static yX7_in, .initialized RX7, .code yX7_in cX7_in 3 (some .boolean), .methodLink RX7 77 yX7_isValue, .static yX7_isValue, .code yX7_isValue cX7_isValue 2 (some .boolean), .methodLink RX7 54 yX7_record, .instanceMethod yX7_record, .selects RX7 yX7_record yX7_record, .code yX7_record cX7_record 2 none, .fieldLink RX7 46 "PointAnswersModel" "pastMany" "I", .fieldLink RX7 13 "PointAnswersModel" "past" "[I"] ++ wsX70)
def wsX7_file : List Cond := .code yX7_file cX7_file 6 (some .int) :: ([.fieldLink RX7 7 "PointAnswersModel" "z" "[I", .methodLink RX7 81 yX7_lay, .instanceMethod yX7_lay, .selects RX7 yX7_lay yX7_lay, .initialized RX7, .code yX7_lay cX7_lay 4 none] ++ wsX70)
def wsX7_isFile : List Cond := .code yX7_isFile cX7_isFile 2 (some .boolean) :: ([.methodLink RX7 50 yX7_in, .static yX7_in, .initialized RX7, .code yX7_in cX7_in 3 (some .boolean)])
def wsX7_whyNotClaim : List Cond := .code yX7_whyNotClaim cX7_whyNotClaim 4 (some .int) :: ([.fieldLink RX7 7 "PointAnswersModel" "z" "[I", .methodLink RX7 50 yX7_in, .static yX7_in, .initialized RX7, .code yX7_in cX7_in 3 (some .boolean), .methodLink RX7 85 yX7_isFile, .static yX7_isFile, .code yX7_isFile cX7_isFile 2 (some .boolean)] ++ wsX70)
def wsX7_claim_r1 : List Cond := [Cond.methodLink RX7 88 yX7_whyNotClaim, Cond.instanceMethod yX7_whyNotClaim, Cond.selects RX7 yX7_whyNotClaim yX7_whyNotClaim, Cond.initialized RX7, Cond.code yX7_whyNotClaim cX7_whyNotClaim 4 (some .int), Cond.fieldLink RX7 7 "PointAnswersModel" "z" "[I", Cond.methodLink RX7 50 yX7_in, Cond.static yX7_in, Cond.code yX7_in cX7_in 3 (some .boolean), Cond.methodLink RX7 85 yX7_isFile, Cond.static yX7_isFile, Cond.code yX7_isFile cX7_isFile 2 (some .boolean), Cond.methodLink RX7 54 yX7_record, Cond.instanceMethod yX7_record, Cond.selects RX7 yX7_record yX7_record, Cond.code yX7_record cX7_record 2 none, Cond.fieldLink RX7 46 "PointAnswersModel" "pastMany" "I", Cond.fieldLink RX7 13 "PointAnswersModel" "past" "[I", Cond.methodLink RX7 92 yX7_file, Cond.instanceMethod yX7_file, Cond.selects RX7 yX7_file yX7_file, Cond.code yX7_file cX7_file 6 (some .int), Cond.methodLink RX7 81 yX7_lay, Cond.instanceMethod yX7_lay]
def wsX7_claim_r2 : List Cond := [Cond.selects RX7 yX7_lay yX7_lay, Cond.code yX7_lay cX7_lay 4 none]
def wsX7_claim : List Cond := .code yX7_claim cX7_claim 5 (some .int) :: ((wsX7_claim_r1 ++ wsX7_claim_r2) ++ wsX70)
def wsX7_whyNotAnswer : List Cond := .code yX7_whyNotAnswer cX7_whyNotAnswer 4 (some .int) :: ([.fieldLink RX7 7 "PointAnswersModel" "z" "[I", .methodLink RX7 96 yX7_isPoint, .instanceMethod yX7_isPoint, .selects RX7 yX7_isPoint yX7_isPoint, .initialized RX7, .code yX7_isPoint cX7_isPoint 2 (some .boolean), .methodLink RX7 85 yX7_isFile, .static yX7_isFile, .code yX7_isFile cX7_isFile 2 (some .boolean), .methodLink RX7 50 yX7_in, .static yX7_in, .code yX7_in cX7_in 3 (some .boolean), .methodLink RX7 61 yX7_isWithdrawn, .instanceMethod yX7_isWithdrawn, .selects RX7 yX7_isWithdrawn yX7_isWithdrawn, .code yX7_isWithdrawn cX7_isWithdrawn 2 (some .boolean), .methodLink RX7 42 yX7_its, .instanceMethod yX7_its, .selects RX7 yX7_its yX7_its, .code yX7_its cX7_its 3 (some .int)] ++ wsX70)
def wsX7_answer_r1 : List Cond := [Cond.methodLink RX7 99 yX7_whyNotAnswer, Cond.instanceMethod yX7_whyNotAnswer, Cond.selects RX7 yX7_whyNotAnswer yX7_whyNotAnswer, Cond.initialized RX7, Cond.code yX7_whyNotAnswer cX7_whyNotAnswer 4 (some .int), Cond.fieldLink RX7 7 "PointAnswersModel" "z" "[I", Cond.methodLink RX7 96 yX7_isPoint, Cond.instanceMethod yX7_isPoint, Cond.selects RX7 yX7_isPoint yX7_isPoint, Cond.code yX7_isPoint cX7_isPoint 2 (some .boolean), Cond.methodLink RX7 85 yX7_isFile, Cond.static yX7_isFile, Cond.code yX7_isFile cX7_isFile 2 (some .boolean), Cond.methodLink RX7 50 yX7_in, Cond.static yX7_in, Cond.code yX7_in cX7_in 3 (some .boolean), Cond.methodLink RX7 61 yX7_isWithdrawn, Cond.instanceMethod yX7_isWithdrawn, Cond.selects RX7 yX7_isWithdrawn yX7_isWithdrawn, Cond.code yX7_isWithdrawn cX7_isWithdrawn 2 (some .boolean), Cond.methodLink RX7 42 yX7_its, Cond.instanceMethod yX7_its, Cond.selects RX7 yX7_its yX7_its, Cond.code yX7_its cX7_its 3 (some .int)]
def wsX7_answer_r2 : List Cond := [Cond.methodLink RX7 54 yX7_record, Cond.instanceMethod yX7_record, Cond.selects RX7 yX7_record yX7_record, Cond.code yX7_record cX7_record 2 none, Cond.fieldLink RX7 46 "PointAnswersModel" "pastMany" "I", Cond.fieldLink RX7 13 "PointAnswersModel" "past" "[I", Cond.methodLink RX7 92 yX7_file, Cond.instanceMethod yX7_file, Cond.selects RX7 yX7_file yX7_file, Cond.code yX7_file cX7_file 6 (some .int), Cond.methodLink RX7 81 yX7_lay, Cond.instanceMethod yX7_lay, Cond.selects RX7 yX7_lay yX7_lay, Cond.code yX7_lay cX7_lay 4 none]
def wsX7_answer : List Cond := .code yX7_answer cX7_answer 5 (some .int) :: ((wsX7_answer_r1 ++ wsX7_answer_r2) ++ wsX70)
def wsX7_whyNotWithdraw : List Cond := .code yX7_whyNotWithdraw cX7_whyNotWithdraw 2 (some .int) :: ([.methodLink RX7 96 yX7_isPoint, .instanceMethod yX7_isPoint, .selects RX7 yX7_isPoint yX7_isPoint, .initialized RX7, .code yX7_isPoint cX7_isPoint 2 (some .boolean), .fieldLink RX7 7 "PointAnswersModel" "z" "[I", .methodLink RX7 61 yX7_isWithdrawn, .instanceMethod yX7_isWithdrawn, .selects RX7 yX7_isWithdrawn yX7_isWithdrawn, .code yX7_isWithdrawn cX7_isWithdrawn 2 (some .boolean), .methodLink RX7 42 yX7_its, .instanceMethod yX7_its, .selects RX7 yX7_its yX7_its, .code yX7_its cX7_its 3 (some .int)] ++ wsX70)
def wsX7_withdraw_r1 : List Cond := [Cond.methodLink RX7 102 yX7_whyNotWithdraw, Cond.instanceMethod yX7_whyNotWithdraw, Cond.selects RX7 yX7_whyNotWithdraw yX7_whyNotWithdraw, Cond.initialized RX7, Cond.code yX7_whyNotWithdraw cX7_whyNotWithdraw 2 (some .int), Cond.methodLink RX7 96 yX7_isPoint, Cond.instanceMethod yX7_isPoint, Cond.selects RX7 yX7_isPoint yX7_isPoint, Cond.code yX7_isPoint cX7_isPoint 2 (some .boolean), Cond.fieldLink RX7 7 "PointAnswersModel" "z" "[I", Cond.methodLink RX7 61 yX7_isWithdrawn, Cond.instanceMethod yX7_isWithdrawn, Cond.selects RX7 yX7_isWithdrawn yX7_isWithdrawn, Cond.code yX7_isWithdrawn cX7_isWithdrawn 2 (some .boolean), Cond.methodLink RX7 42 yX7_its, Cond.instanceMethod yX7_its, Cond.selects RX7 yX7_its yX7_its, Cond.code yX7_its cX7_its 3 (some .int), Cond.methodLink RX7 54 yX7_record, Cond.instanceMethod yX7_record, Cond.selects RX7 yX7_record yX7_record, Cond.code yX7_record cX7_record 2 none, Cond.fieldLink RX7 46 "PointAnswersModel" "pastMany" "I", Cond.fieldLink RX7 13 "PointAnswersModel" "past" "[I"]
def wsX7_withdraw_r2 : List Cond := [Cond.methodLink RX7 81 yX7_lay, Cond.instanceMethod yX7_lay, Cond.selects RX7 yX7_lay yX7_lay, Cond.code yX7_lay cX7_lay 4 none, Cond.methodLink RX7 106 yX7_look, Cond.instanceMethod yX7_look, Cond.selects RX7 yX7_look yX7_look, Cond.code yX7_look cX7_look 1 none, Cond.methodLink RX7 70 yX7_layOut, Cond.instanceMethod yX7_layOut, Cond.selects RX7 yX7_layOut yX7_layOut, Cond.code yX7_layOut cX7_layOut 4 none, Cond.fieldLink RX7 30 "PointAnswersModel" "taken" "[I", Cond.fieldLink RX7 27 "PointAnswersModel" "why" "[I", Cond.methodLink RX7 64 yX7_lapsed, Cond.instanceMethod yX7_lapsed, Cond.selects RX7 yX7_lapsed yX7_lapsed, Cond.code yX7_lapsed cX7_lapsed 2 (some .boolean), Cond.methodLink RX7 57 yX7_isClaim, Cond.instanceMethod yX7_isClaim, Cond.selects RX7 yX7_isClaim yX7_isClaim, Cond.code yX7_isClaim cX7_isClaim 2 (some .boolean), Cond.methodLink RX7 67 yX7_hasNoCase, Cond.instanceMethod yX7_hasNoCase]
def wsX7_withdraw_r3 : List Cond := [Cond.selects RX7 yX7_hasNoCase yX7_hasNoCase, Cond.code yX7_hasNoCase cX7_hasNoCase 2 (some .boolean), Cond.methodLink RX7 73 yX7_layAnswered, Cond.instanceMethod yX7_layAnswered, Cond.selects RX7 yX7_layAnswered yX7_layAnswered, Cond.code yX7_layAnswered cX7_layAnswered 5 none, Cond.methodLink RX7 109 yX7_standing, Cond.instanceMethod yX7_standing, Cond.selects RX7 yX7_standing yX7_standing, Cond.code yX7_standing cX7_standing 3 (some .int), Cond.methodLink RX7 113 yX7_bits, Cond.static yX7_bits, Cond.code yX7_bits cX7_bits 3 (some .int)]
def wsX7_withdraw : List Cond := .code yX7_withdraw cX7_withdraw 3 (some .int) :: ((wsX7_withdraw_r1 ++ (wsX7_withdraw_r2 ++ wsX7_withdraw_r3)) ++ wsX70)
def wsX7_whyNotRenew : List Cond := .code yX7_whyNotRenew cX7_whyNotRenew 2 (some .int) :: ([.methodLink RX7 96 yX7_isPoint, .instanceMethod yX7_isPoint, .selects RX7 yX7_isPoint yX7_isPoint, .initialized RX7, .code yX7_isPoint cX7_isPoint 2 (some .boolean), .fieldLink RX7 7 "PointAnswersModel" "z" "[I", .methodLink RX7 57 yX7_isClaim, .instanceMethod yX7_isClaim, .selects RX7 yX7_isClaim yX7_isClaim, .code yX7_isClaim cX7_isClaim 2 (some .boolean), .methodLink RX7 42 yX7_its, .instanceMethod yX7_its, .selects RX7 yX7_its yX7_its, .code yX7_its cX7_its 3 (some .int), .methodLink RX7 61 yX7_isWithdrawn, .instanceMethod yX7_isWithdrawn, .selects RX7 yX7_isWithdrawn yX7_isWithdrawn, .code yX7_isWithdrawn cX7_isWithdrawn 2 (some .boolean)] ++ wsX70)
def wsX7_renew_r1 : List Cond := [Cond.fieldLink RX7 7 "PointAnswersModel" "z" "[I", Cond.methodLink RX7 116 yX7_whyNotRenew, Cond.instanceMethod yX7_whyNotRenew, Cond.selects RX7 yX7_whyNotRenew yX7_whyNotRenew, Cond.initialized RX7, Cond.code yX7_whyNotRenew cX7_whyNotRenew 2 (some .int), Cond.methodLink RX7 96 yX7_isPoint, Cond.instanceMethod yX7_isPoint, Cond.selects RX7 yX7_isPoint yX7_isPoint, Cond.code yX7_isPoint cX7_isPoint 2 (some .boolean), Cond.methodLink RX7 57 yX7_isClaim, Cond.instanceMethod yX7_isClaim, Cond.selects RX7 yX7_isClaim yX7_isClaim, Cond.code yX7_isClaim cX7_isClaim 2 (some .boolean), Cond.methodLink RX7 42 yX7_its, Cond.instanceMethod yX7_its, Cond.selects RX7 yX7_its yX7_its, Cond.code yX7_its cX7_its 3 (some .int), Cond.methodLink RX7 61 yX7_isWithdrawn, Cond.instanceMethod yX7_isWithdrawn, Cond.selects RX7 yX7_isWithdrawn yX7_isWithdrawn, Cond.code yX7_isWithdrawn cX7_isWithdrawn 2 (some .boolean), Cond.methodLink RX7 54 yX7_record, Cond.instanceMethod yX7_record]
def wsX7_renew_r2 : List Cond := [Cond.selects RX7 yX7_record yX7_record, Cond.code yX7_record cX7_record 2 none, Cond.fieldLink RX7 46 "PointAnswersModel" "pastMany" "I", Cond.fieldLink RX7 13 "PointAnswersModel" "past" "[I", Cond.methodLink RX7 81 yX7_lay, Cond.instanceMethod yX7_lay, Cond.selects RX7 yX7_lay yX7_lay, Cond.code yX7_lay cX7_lay 4 none]
def wsX7_renew : List Cond := .code yX7_renew cX7_renew 4 (some .int) :: ((wsX7_renew_r1 ++ wsX7_renew_r2) ++ wsX70)
def wsX7_overruleIt : List Cond := .code yX7_overruleIt cX7_overruleIt 2 (some .int) :: ([.fieldLink RX7 7 "PointAnswersModel" "z" "[I"] ++ wsX70)
def wsX7_overrule : List Cond := .code yX7_overrule cX7_overrule 2 (some .int) :: ([.methodLink RX7 50 yX7_in, .static yX7_in, .initialized RX7, .code yX7_in cX7_in 3 (some .boolean), .methodLink RX7 54 yX7_record, .instanceMethod yX7_record, .selects RX7 yX7_record yX7_record, .code yX7_record cX7_record 2 none, .fieldLink RX7 46 "PointAnswersModel" "pastMany" "I", .fieldLink RX7 13 "PointAnswersModel" "past" "[I", .fieldLink RX7 7 "PointAnswersModel" "z" "[I", .methodLink RX7 119 yX7_overruleIt, .instanceMethod yX7_overruleIt, .selects RX7 yX7_overruleIt yX7_overruleIt, .code yX7_overruleIt cX7_overruleIt 2 (some .int)] ++ wsX70)
def wsX7_whyNotPass : List Cond := .code yX7_whyNotPass cX7_whyNotPass 2 (some .int) :: ([.fieldLink RX7 7 "PointAnswersModel" "z" "[I", .methodLink RX7 50 yX7_in, .static yX7_in, .initialized RX7, .code yX7_in cX7_in 3 (some .boolean)] ++ wsX70)
def wsX7_pass_r1 : List Cond := [Cond.fieldLink RX7 7 "PointAnswersModel" "z" "[I", Cond.methodLink RX7 122 yX7_whyNotPass, Cond.instanceMethod yX7_whyNotPass, Cond.selects RX7 yX7_whyNotPass yX7_whyNotPass, Cond.initialized RX7, Cond.code yX7_whyNotPass cX7_whyNotPass 2 (some .int), Cond.methodLink RX7 50 yX7_in, Cond.static yX7_in, Cond.code yX7_in cX7_in 3 (some .boolean), Cond.methodLink RX7 54 yX7_record, Cond.instanceMethod yX7_record, Cond.selects RX7 yX7_record yX7_record, Cond.code yX7_record cX7_record 2 none, Cond.fieldLink RX7 46 "PointAnswersModel" "pastMany" "I", Cond.fieldLink RX7 13 "PointAnswersModel" "past" "[I", Cond.methodLink RX7 106 yX7_look, Cond.instanceMethod yX7_look, Cond.selects RX7 yX7_look yX7_look, Cond.code yX7_look cX7_look 1 none, Cond.methodLink RX7 70 yX7_layOut, Cond.instanceMethod yX7_layOut, Cond.selects RX7 yX7_layOut yX7_layOut, Cond.code yX7_layOut cX7_layOut 4 none, Cond.fieldLink RX7 30 "PointAnswersModel" "taken" "[I"]
def wsX7_pass_r2 : List Cond := [Cond.fieldLink RX7 27 "PointAnswersModel" "why" "[I", Cond.methodLink RX7 42 yX7_its, Cond.instanceMethod yX7_its, Cond.selects RX7 yX7_its yX7_its, Cond.code yX7_its cX7_its 3 (some .int), Cond.methodLink RX7 61 yX7_isWithdrawn, Cond.instanceMethod yX7_isWithdrawn, Cond.selects RX7 yX7_isWithdrawn yX7_isWithdrawn, Cond.code yX7_isWithdrawn cX7_isWithdrawn 2 (some .boolean), Cond.methodLink RX7 64 yX7_lapsed, Cond.instanceMethod yX7_lapsed, Cond.selects RX7 yX7_lapsed yX7_lapsed, Cond.code yX7_lapsed cX7_lapsed 2 (some .boolean), Cond.methodLink RX7 57 yX7_isClaim, Cond.instanceMethod yX7_isClaim, Cond.selects RX7 yX7_isClaim yX7_isClaim, Cond.code yX7_isClaim cX7_isClaim 2 (some .boolean), Cond.methodLink RX7 67 yX7_hasNoCase, Cond.instanceMethod yX7_hasNoCase, Cond.selects RX7 yX7_hasNoCase yX7_hasNoCase, Cond.code yX7_hasNoCase cX7_hasNoCase 2 (some .boolean), Cond.methodLink RX7 73 yX7_layAnswered, Cond.instanceMethod yX7_layAnswered, Cond.selects RX7 yX7_layAnswered yX7_layAnswered]
def wsX7_pass_r3 : List Cond := [Cond.code yX7_layAnswered cX7_layAnswered 5 none, Cond.methodLink RX7 109 yX7_standing, Cond.instanceMethod yX7_standing, Cond.selects RX7 yX7_standing yX7_standing, Cond.code yX7_standing cX7_standing 3 (some .int), Cond.methodLink RX7 113 yX7_bits, Cond.static yX7_bits, Cond.code yX7_bits cX7_bits 3 (some .int)]
def wsX7_pass : List Cond := .code yX7_pass cX7_pass 3 (some .int) :: ((wsX7_pass_r1 ++ (wsX7_pass_r2 ++ wsX7_pass_r3)) ++ wsX70)
def wsX7_lowestThatStands : List Cond := .code yX7_lowestThatStands cX7_lowestThatStands 3 (some .int) :: ([.fieldLink RX7 7 "PointAnswersModel" "z" "[I", .fieldLink RX7 27 "PointAnswersModel" "why" "[I", .methodLink RX7 42 yX7_its, .instanceMethod yX7_its, .selects RX7 yX7_its yX7_its, .initialized RX7, .code yX7_its cX7_its 3 (some .int)] ++ wsX70)
def wsX7_depth : List Cond := .code yX7_depth cX7_depth 4 (some .int) :: ([.methodLink RX7 57 yX7_isClaim, .instanceMethod yX7_isClaim, .selects RX7 yX7_isClaim yX7_isClaim, .initialized RX7, .code yX7_isClaim cX7_isClaim 2 (some .boolean), .methodLink RX7 42 yX7_its, .instanceMethod yX7_its, .selects RX7 yX7_its yX7_its, .code yX7_its cX7_its 3 (some .int), .fieldLink RX7 7 "PointAnswersModel" "z" "[I"] ++ wsX70)
def wsX7_daysYet : List Cond := .code yX7_daysYet cX7_daysYet 2 (some .int) :: ([.fieldLink RX7 7 "PointAnswersModel" "z" "[I", .methodLink RX7 57 yX7_isClaim, .instanceMethod yX7_isClaim, .selects RX7 yX7_isClaim yX7_isClaim, .initialized RX7, .code yX7_isClaim cX7_isClaim 2 (some .boolean), .methodLink RX7 42 yX7_its, .instanceMethod yX7_its, .selects RX7 yX7_its yX7_its, .code yX7_its cX7_its 3 (some .int), .methodLink RX7 64 yX7_lapsed, .instanceMethod yX7_lapsed, .selects RX7 yX7_lapsed yX7_lapsed, .code yX7_lapsed cX7_lapsed 2 (some .boolean)] ++ wsX70)
def wsX7_of_r1 : List Cond := [Cond.fieldLink RX7 27 "PointAnswersModel" "why" "[I", Cond.methodLink RX7 96 yX7_isPoint, Cond.instanceMethod yX7_isPoint, Cond.selects RX7 yX7_isPoint yX7_isPoint, Cond.initialized RX7, Cond.code yX7_isPoint cX7_isPoint 2 (some .boolean), Cond.fieldLink RX7 7 "PointAnswersModel" "z" "[I", Cond.methodLink RX7 106 yX7_look, Cond.instanceMethod yX7_look, Cond.selects RX7 yX7_look yX7_look, Cond.code yX7_look cX7_look 1 none, Cond.methodLink RX7 70 yX7_layOut, Cond.instanceMethod yX7_layOut, Cond.selects RX7 yX7_layOut yX7_layOut, Cond.code yX7_layOut cX7_layOut 4 none, Cond.fieldLink RX7 30 "PointAnswersModel" "taken" "[I", Cond.methodLink RX7 42 yX7_its, Cond.instanceMethod yX7_its, Cond.selects RX7 yX7_its yX7_its, Cond.code yX7_its cX7_its 3 (some .int), Cond.methodLink RX7 61 yX7_isWithdrawn, Cond.instanceMethod yX7_isWithdrawn, Cond.selects RX7 yX7_isWithdrawn yX7_isWithdrawn, Cond.code yX7_isWithdrawn cX7_isWithdrawn 2 (some .boolean)]
def wsX7_of_r2 : List Cond := [Cond.methodLink RX7 64 yX7_lapsed, Cond.instanceMethod yX7_lapsed, Cond.selects RX7 yX7_lapsed yX7_lapsed, Cond.code yX7_lapsed cX7_lapsed 2 (some .boolean), Cond.methodLink RX7 57 yX7_isClaim, Cond.instanceMethod yX7_isClaim, Cond.selects RX7 yX7_isClaim yX7_isClaim, Cond.code yX7_isClaim cX7_isClaim 2 (some .boolean), Cond.methodLink RX7 67 yX7_hasNoCase, Cond.instanceMethod yX7_hasNoCase, Cond.selects RX7 yX7_hasNoCase yX7_hasNoCase, Cond.code yX7_hasNoCase cX7_hasNoCase 2 (some .boolean), Cond.methodLink RX7 73 yX7_layAnswered, Cond.instanceMethod yX7_layAnswered, Cond.selects RX7 yX7_layAnswered yX7_layAnswered, Cond.code yX7_layAnswered cX7_layAnswered 5 none, Cond.methodLink RX7 125 yX7_lowestThatStands, Cond.instanceMethod yX7_lowestThatStands, Cond.selects RX7 yX7_lowestThatStands yX7_lowestThatStands, Cond.code yX7_lowestThatStands cX7_lowestThatStands 3 (some .int), Cond.methodLink RX7 128 yX7_answersTo, Cond.instanceMethod yX7_answersTo, Cond.selects RX7 yX7_answersTo yX7_answersTo, Cond.code yX7_answersTo cX7_answersTo 4 (some .int)]
def wsX7_of_r3 : List Cond := [Cond.methodLink RX7 131 yX7_depth, Cond.instanceMethod yX7_depth, Cond.selects RX7 yX7_depth yX7_depth, Cond.code yX7_depth cX7_depth 4 (some .int), Cond.methodLink RX7 134 yX7_daysYet, Cond.instanceMethod yX7_daysYet, Cond.selects RX7 yX7_daysYet yX7_daysYet, Cond.code yX7_daysYet cX7_daysYet 2 (some .int)]
def wsX7_of : List Cond := .code yX7_of cX7_of 3 (some .int) :: ((wsX7_of_r1 ++ (wsX7_of_r2 ++ wsX7_of_r3)) ++ wsX70)
def wsX7_outOnes : List Cond := .code yX7_outOnes cX7_outOnes 3 (some .int) :: ([.fieldLink RX7 7 "PointAnswersModel" "z" "[I", .fieldLink RX7 27 "PointAnswersModel" "why" "[I", .methodLink RX7 50 yX7_in, .static yX7_in, .initialized RX7, .code yX7_in cX7_in 3 (some .boolean)] ++ wsX70)
def wsX7_answeredOnes : List Cond := .code yX7_answeredOnes cX7_answeredOnes 3 (some .int) :: ([.fieldLink RX7 7 "PointAnswersModel" "z" "[I", .fieldLink RX7 27 "PointAnswersModel" "why" "[I"] ++ wsX70)
def wsX7_ofSide : List Cond := .code yX7_ofSide cX7_ofSide 4 (some .int) :: ([.fieldLink RX7 7 "PointAnswersModel" "z" "[I", .methodLink RX7 42 yX7_its, .instanceMethod yX7_its, .selects RX7 yX7_its yX7_its, .initialized RX7, .code yX7_its cX7_its 3 (some .int)] ++ wsX70)
def wsX7_count_r1 : List Cond := [Cond.fieldLink RX7 7 "PointAnswersModel" "z" "[I", Cond.fieldLink RX7 30 "PointAnswersModel" "taken" "[I", Cond.fieldLink RX7 146 "PointAnswersModel" "typed" "I", Cond.fieldLink RX7 46 "PointAnswersModel" "pastMany" "I", Cond.methodLink RX7 106 yX7_look, Cond.instanceMethod yX7_look, Cond.selects RX7 yX7_look yX7_look, Cond.initialized RX7, Cond.code yX7_look cX7_look 1 none, Cond.methodLink RX7 70 yX7_layOut, Cond.instanceMethod yX7_layOut, Cond.selects RX7 yX7_layOut yX7_layOut, Cond.code yX7_layOut cX7_layOut 4 none, Cond.fieldLink RX7 27 "PointAnswersModel" "why" "[I", Cond.methodLink RX7 42 yX7_its, Cond.instanceMethod yX7_its, Cond.selects RX7 yX7_its yX7_its, Cond.code yX7_its cX7_its 3 (some .int), Cond.methodLink RX7 61 yX7_isWithdrawn, Cond.instanceMethod yX7_isWithdrawn, Cond.selects RX7 yX7_isWithdrawn yX7_isWithdrawn, Cond.code yX7_isWithdrawn cX7_isWithdrawn 2 (some .boolean), Cond.methodLink RX7 64 yX7_lapsed, Cond.instanceMethod yX7_lapsed]
def wsX7_count_r2 : List Cond := [Cond.selects RX7 yX7_lapsed yX7_lapsed, Cond.code yX7_lapsed cX7_lapsed 2 (some .boolean), Cond.methodLink RX7 57 yX7_isClaim, Cond.instanceMethod yX7_isClaim, Cond.selects RX7 yX7_isClaim yX7_isClaim, Cond.code yX7_isClaim cX7_isClaim 2 (some .boolean), Cond.methodLink RX7 67 yX7_hasNoCase, Cond.instanceMethod yX7_hasNoCase, Cond.selects RX7 yX7_hasNoCase yX7_hasNoCase, Cond.code yX7_hasNoCase cX7_hasNoCase 2 (some .boolean), Cond.methodLink RX7 73 yX7_layAnswered, Cond.instanceMethod yX7_layAnswered, Cond.selects RX7 yX7_layAnswered yX7_layAnswered, Cond.code yX7_layAnswered cX7_layAnswered 5 none, Cond.methodLink RX7 137 yX7_claims, Cond.instanceMethod yX7_claims, Cond.selects RX7 yX7_claims yX7_claims, Cond.code yX7_claims cX7_claims 3 (some .int), Cond.methodLink RX7 113 yX7_bits, Cond.static yX7_bits, Cond.code yX7_bits cX7_bits 3 (some .int), Cond.methodLink RX7 109 yX7_standing, Cond.instanceMethod yX7_standing, Cond.selects RX7 yX7_standing yX7_standing]
def wsX7_count_r3 : List Cond := [Cond.code yX7_standing cX7_standing 3 (some .int), Cond.methodLink RX7 140 yX7_outOnes, Cond.instanceMethod yX7_outOnes, Cond.selects RX7 yX7_outOnes yX7_outOnes, Cond.code yX7_outOnes cX7_outOnes 3 (some .int), Cond.methodLink RX7 50 yX7_in, Cond.static yX7_in, Cond.code yX7_in cX7_in 3 (some .boolean), Cond.methodLink RX7 143 yX7_answeredOnes, Cond.instanceMethod yX7_answeredOnes, Cond.selects RX7 yX7_answeredOnes yX7_answeredOnes, Cond.code yX7_answeredOnes cX7_answeredOnes 3 (some .int)]
def wsX7_count : List Cond := .code yX7_count cX7_count 2 (some .int) :: ((wsX7_count_r1 ++ (wsX7_count_r2 ++ wsX7_count_r3)) ++ wsX70)
def wsX7_points_r1 : List Cond := [Cond.methodLink RX7 106 yX7_look, Cond.instanceMethod yX7_look, Cond.selects RX7 yX7_look yX7_look, Cond.initialized RX7, Cond.code yX7_look cX7_look 1 none, Cond.methodLink RX7 70 yX7_layOut, Cond.instanceMethod yX7_layOut, Cond.selects RX7 yX7_layOut yX7_layOut, Cond.code yX7_layOut cX7_layOut 4 none, Cond.fieldLink RX7 30 "PointAnswersModel" "taken" "[I", Cond.fieldLink RX7 7 "PointAnswersModel" "z" "[I", Cond.fieldLink RX7 27 "PointAnswersModel" "why" "[I", Cond.methodLink RX7 42 yX7_its, Cond.instanceMethod yX7_its, Cond.selects RX7 yX7_its yX7_its, Cond.code yX7_its cX7_its 3 (some .int), Cond.methodLink RX7 61 yX7_isWithdrawn, Cond.instanceMethod yX7_isWithdrawn, Cond.selects RX7 yX7_isWithdrawn yX7_isWithdrawn, Cond.code yX7_isWithdrawn cX7_isWithdrawn 2 (some .boolean), Cond.methodLink RX7 64 yX7_lapsed, Cond.instanceMethod yX7_lapsed, Cond.selects RX7 yX7_lapsed yX7_lapsed, Cond.code yX7_lapsed cX7_lapsed 2 (some .boolean)]
def wsX7_points_r2 : List Cond := [Cond.methodLink RX7 57 yX7_isClaim, Cond.instanceMethod yX7_isClaim, Cond.selects RX7 yX7_isClaim yX7_isClaim, Cond.code yX7_isClaim cX7_isClaim 2 (some .boolean), Cond.methodLink RX7 67 yX7_hasNoCase, Cond.instanceMethod yX7_hasNoCase, Cond.selects RX7 yX7_hasNoCase yX7_hasNoCase, Cond.code yX7_hasNoCase cX7_hasNoCase 2 (some .boolean), Cond.methodLink RX7 73 yX7_layAnswered, Cond.instanceMethod yX7_layAnswered, Cond.selects RX7 yX7_layAnswered yX7_layAnswered, Cond.code yX7_layAnswered cX7_layAnswered 5 none, Cond.methodLink RX7 109 yX7_standing, Cond.instanceMethod yX7_standing, Cond.selects RX7 yX7_standing yX7_standing, Cond.code yX7_standing cX7_standing 3 (some .int), Cond.methodLink RX7 137 yX7_claims, Cond.instanceMethod yX7_claims, Cond.selects RX7 yX7_claims yX7_claims, Cond.code yX7_claims cX7_claims 3 (some .int), Cond.methodLink RX7 140 yX7_outOnes, Cond.instanceMethod yX7_outOnes, Cond.selects RX7 yX7_outOnes yX7_outOnes, Cond.code yX7_outOnes cX7_outOnes 3 (some .int)]
def wsX7_points_r3 : List Cond := [Cond.methodLink RX7 50 yX7_in, Cond.static yX7_in, Cond.code yX7_in cX7_in 3 (some .boolean), Cond.methodLink RX7 143 yX7_answeredOnes, Cond.instanceMethod yX7_answeredOnes, Cond.selects RX7 yX7_answeredOnes yX7_answeredOnes, Cond.code yX7_answeredOnes cX7_answeredOnes 3 (some .int), Cond.methodLink RX7 149 yX7_ofSide, Cond.instanceMethod yX7_ofSide, Cond.selects RX7 yX7_ofSide yX7_ofSide, Cond.code yX7_ofSide cX7_ofSide 4 (some .int)]
def wsX7_points : List Cond := .code yX7_points cX7_points 2 (some .int) :: ((wsX7_points_r1 ++ (wsX7_points_r2 ++ wsX7_points_r3)) ++ wsX70)
def wsX7_bitsOf : List Cond := .code yX7_bitsOf cX7_bitsOf 3 (some .int) :: ([.constantFloat RX7 152 (1258291200), .constant RX7 153 (8388608)])
def wsX7_share_r1 : List Cond := [Cond.methodLink RX7 50 yX7_in, Cond.static yX7_in, Cond.initialized RX7, Cond.code yX7_in cX7_in 3 (some .boolean), Cond.methodLink RX7 106 yX7_look, Cond.instanceMethod yX7_look, Cond.selects RX7 yX7_look yX7_look, Cond.code yX7_look cX7_look 1 none, Cond.methodLink RX7 70 yX7_layOut, Cond.instanceMethod yX7_layOut, Cond.selects RX7 yX7_layOut yX7_layOut, Cond.code yX7_layOut cX7_layOut 4 none, Cond.fieldLink RX7 30 "PointAnswersModel" "taken" "[I", Cond.fieldLink RX7 7 "PointAnswersModel" "z" "[I", Cond.fieldLink RX7 27 "PointAnswersModel" "why" "[I", Cond.methodLink RX7 42 yX7_its, Cond.instanceMethod yX7_its, Cond.selects RX7 yX7_its yX7_its, Cond.code yX7_its cX7_its 3 (some .int), Cond.methodLink RX7 61 yX7_isWithdrawn, Cond.instanceMethod yX7_isWithdrawn, Cond.selects RX7 yX7_isWithdrawn yX7_isWithdrawn, Cond.code yX7_isWithdrawn cX7_isWithdrawn 2 (some .boolean), Cond.methodLink RX7 64 yX7_lapsed]
def wsX7_share_r2 : List Cond := [Cond.instanceMethod yX7_lapsed, Cond.selects RX7 yX7_lapsed yX7_lapsed, Cond.code yX7_lapsed cX7_lapsed 2 (some .boolean), Cond.methodLink RX7 57 yX7_isClaim, Cond.instanceMethod yX7_isClaim, Cond.selects RX7 yX7_isClaim yX7_isClaim, Cond.code yX7_isClaim cX7_isClaim 2 (some .boolean), Cond.methodLink RX7 67 yX7_hasNoCase, Cond.instanceMethod yX7_hasNoCase, Cond.selects RX7 yX7_hasNoCase yX7_hasNoCase, Cond.code yX7_hasNoCase cX7_hasNoCase 2 (some .boolean), Cond.methodLink RX7 73 yX7_layAnswered, Cond.instanceMethod yX7_layAnswered, Cond.selects RX7 yX7_layAnswered yX7_layAnswered, Cond.code yX7_layAnswered cX7_layAnswered 5 none, Cond.methodLink RX7 137 yX7_claims, Cond.instanceMethod yX7_claims, Cond.selects RX7 yX7_claims yX7_claims, Cond.code yX7_claims cX7_claims 3 (some .int), Cond.methodLink RX7 149 yX7_ofSide, Cond.instanceMethod yX7_ofSide, Cond.selects RX7 yX7_ofSide yX7_ofSide, Cond.code yX7_ofSide cX7_ofSide 4 (some .int), Cond.methodLink RX7 113 yX7_bits]
def wsX7_share_r3 : List Cond := [Cond.static yX7_bits, Cond.code yX7_bits cX7_bits 3 (some .int), Cond.methodLink RX7 109 yX7_standing, Cond.instanceMethod yX7_standing, Cond.selects RX7 yX7_standing yX7_standing, Cond.code yX7_standing cX7_standing 3 (some .int), Cond.methodLink RX7 154 yX7_bitsOf, Cond.static yX7_bitsOf, Cond.code yX7_bitsOf cX7_bitsOf 3 (some .int), Cond.constantFloat RX7 152 (1258291200), Cond.constant RX7 153 (8388608)]
def wsX7_share : List Cond := .code yX7_share cX7_share 3 (some .int) :: ((wsX7_share_r1 ++ (wsX7_share_r2 ++ wsX7_share_r3)) ++ wsX70)
def wsX7_layCosts_r1 : List Cond := [Cond.fieldLink RX7 7 "PointAnswersModel" "z" "[I", Cond.fieldLink RX7 27 "PointAnswersModel" "why" "[I", Cond.fieldLink RX7 36 "PointAnswersModel" "falls" "[I", Cond.fieldLink RX7 33 "PointAnswersModel" "stands" "[I", Cond.methodLink RX7 106 yX7_look, Cond.instanceMethod yX7_look, Cond.selects RX7 yX7_look yX7_look, Cond.initialized RX7, Cond.code yX7_look cX7_look 1 none, Cond.methodLink RX7 70 yX7_layOut, Cond.instanceMethod yX7_layOut, Cond.selects RX7 yX7_layOut yX7_layOut, Cond.code yX7_layOut cX7_layOut 4 none, Cond.fieldLink RX7 30 "PointAnswersModel" "taken" "[I", Cond.methodLink RX7 42 yX7_its, Cond.instanceMethod yX7_its, Cond.selects RX7 yX7_its yX7_its, Cond.code yX7_its cX7_its 3 (some .int), Cond.methodLink RX7 61 yX7_isWithdrawn, Cond.instanceMethod yX7_isWithdrawn, Cond.selects RX7 yX7_isWithdrawn yX7_isWithdrawn, Cond.code yX7_isWithdrawn cX7_isWithdrawn 2 (some .boolean), Cond.methodLink RX7 64 yX7_lapsed, Cond.instanceMethod yX7_lapsed]
def wsX7_layCosts_r2 : List Cond := [Cond.selects RX7 yX7_lapsed yX7_lapsed, Cond.code yX7_lapsed cX7_lapsed 2 (some .boolean), Cond.methodLink RX7 57 yX7_isClaim, Cond.instanceMethod yX7_isClaim, Cond.selects RX7 yX7_isClaim yX7_isClaim, Cond.code yX7_isClaim cX7_isClaim 2 (some .boolean), Cond.methodLink RX7 67 yX7_hasNoCase, Cond.instanceMethod yX7_hasNoCase, Cond.selects RX7 yX7_hasNoCase yX7_hasNoCase, Cond.code yX7_hasNoCase cX7_hasNoCase 2 (some .boolean), Cond.methodLink RX7 73 yX7_layAnswered, Cond.instanceMethod yX7_layAnswered, Cond.selects RX7 yX7_layAnswered yX7_layAnswered, Cond.code yX7_layAnswered cX7_layAnswered 5 none, Cond.methodLink RX7 50 yX7_in, Cond.static yX7_in, Cond.code yX7_in cX7_in 3 (some .boolean), Cond.methodLink RX7 128 yX7_answersTo, Cond.instanceMethod yX7_answersTo, Cond.selects RX7 yX7_answersTo yX7_answersTo, Cond.code yX7_answersTo cX7_answersTo 4 (some .int)]
def wsX7_layCosts : List Cond := .code yX7_layCosts cX7_layCosts 7 none :: ((wsX7_layCosts_r1 ++ wsX7_layCosts_r2) ++ wsX70)
def wsX7_toFall_r1 : List Cond := [Cond.fieldLink RX7 36 "PointAnswersModel" "falls" "[I", Cond.methodLink RX7 96 yX7_isPoint, Cond.instanceMethod yX7_isPoint, Cond.selects RX7 yX7_isPoint yX7_isPoint, Cond.initialized RX7, Cond.code yX7_isPoint cX7_isPoint 2 (some .boolean), Cond.fieldLink RX7 7 "PointAnswersModel" "z" "[I", Cond.methodLink RX7 158 yX7_layCosts, Cond.instanceMethod yX7_layCosts, Cond.selects RX7 yX7_layCosts yX7_layCosts, Cond.code yX7_layCosts cX7_layCosts 7 none, Cond.fieldLink RX7 27 "PointAnswersModel" "why" "[I", Cond.fieldLink RX7 33 "PointAnswersModel" "stands" "[I", Cond.methodLink RX7 106 yX7_look, Cond.instanceMethod yX7_look, Cond.selects RX7 yX7_look yX7_look, Cond.code yX7_look cX7_look 1 none, Cond.methodLink RX7 70 yX7_layOut, Cond.instanceMethod yX7_layOut, Cond.selects RX7 yX7_layOut yX7_layOut, Cond.code yX7_layOut cX7_layOut 4 none, Cond.fieldLink RX7 30 "PointAnswersModel" "taken" "[I", Cond.methodLink RX7 42 yX7_its, Cond.instanceMethod yX7_its]
def wsX7_toFall_r2 : List Cond := [Cond.selects RX7 yX7_its yX7_its, Cond.code yX7_its cX7_its 3 (some .int), Cond.methodLink RX7 61 yX7_isWithdrawn, Cond.instanceMethod yX7_isWithdrawn, Cond.selects RX7 yX7_isWithdrawn yX7_isWithdrawn, Cond.code yX7_isWithdrawn cX7_isWithdrawn 2 (some .boolean), Cond.methodLink RX7 64 yX7_lapsed, Cond.instanceMethod yX7_lapsed, Cond.selects RX7 yX7_lapsed yX7_lapsed, Cond.code yX7_lapsed cX7_lapsed 2 (some .boolean), Cond.methodLink RX7 57 yX7_isClaim, Cond.instanceMethod yX7_isClaim, Cond.selects RX7 yX7_isClaim yX7_isClaim, Cond.code yX7_isClaim cX7_isClaim 2 (some .boolean), Cond.methodLink RX7 67 yX7_hasNoCase, Cond.instanceMethod yX7_hasNoCase, Cond.selects RX7 yX7_hasNoCase yX7_hasNoCase, Cond.code yX7_hasNoCase cX7_hasNoCase 2 (some .boolean), Cond.methodLink RX7 73 yX7_layAnswered, Cond.instanceMethod yX7_layAnswered, Cond.selects RX7 yX7_layAnswered yX7_layAnswered, Cond.code yX7_layAnswered cX7_layAnswered 5 none, Cond.methodLink RX7 50 yX7_in, Cond.static yX7_in]
def wsX7_toFall_r3 : List Cond := [Cond.code yX7_in cX7_in 3 (some .boolean), Cond.methodLink RX7 128 yX7_answersTo, Cond.instanceMethod yX7_answersTo, Cond.selects RX7 yX7_answersTo yX7_answersTo, Cond.code yX7_answersTo cX7_answersTo 4 (some .int)]
def wsX7_toFall : List Cond := .code yX7_toFall cX7_toFall 2 (some .int) :: ((wsX7_toFall_r1 ++ (wsX7_toFall_r2 ++ wsX7_toFall_r3)) ++ wsX70)
def wsX7_toStand_r1 : List Cond := [Cond.fieldLink RX7 27 "PointAnswersModel" "why" "[I", Cond.fieldLink RX7 33 "PointAnswersModel" "stands" "[I", Cond.methodLink RX7 96 yX7_isPoint, Cond.instanceMethod yX7_isPoint, Cond.selects RX7 yX7_isPoint yX7_isPoint, Cond.initialized RX7, Cond.code yX7_isPoint cX7_isPoint 2 (some .boolean), Cond.fieldLink RX7 7 "PointAnswersModel" "z" "[I", Cond.methodLink RX7 158 yX7_layCosts, Cond.instanceMethod yX7_layCosts, Cond.selects RX7 yX7_layCosts yX7_layCosts, Cond.code yX7_layCosts cX7_layCosts 7 none, Cond.fieldLink RX7 36 "PointAnswersModel" "falls" "[I", Cond.methodLink RX7 106 yX7_look, Cond.instanceMethod yX7_look, Cond.selects RX7 yX7_look yX7_look, Cond.code yX7_look cX7_look 1 none, Cond.methodLink RX7 70 yX7_layOut, Cond.instanceMethod yX7_layOut, Cond.selects RX7 yX7_layOut yX7_layOut, Cond.code yX7_layOut cX7_layOut 4 none, Cond.fieldLink RX7 30 "PointAnswersModel" "taken" "[I", Cond.methodLink RX7 42 yX7_its, Cond.instanceMethod yX7_its]
def wsX7_toStand_r2 : List Cond := [Cond.selects RX7 yX7_its yX7_its, Cond.code yX7_its cX7_its 3 (some .int), Cond.methodLink RX7 61 yX7_isWithdrawn, Cond.instanceMethod yX7_isWithdrawn, Cond.selects RX7 yX7_isWithdrawn yX7_isWithdrawn, Cond.code yX7_isWithdrawn cX7_isWithdrawn 2 (some .boolean), Cond.methodLink RX7 64 yX7_lapsed, Cond.instanceMethod yX7_lapsed, Cond.selects RX7 yX7_lapsed yX7_lapsed, Cond.code yX7_lapsed cX7_lapsed 2 (some .boolean), Cond.methodLink RX7 57 yX7_isClaim, Cond.instanceMethod yX7_isClaim, Cond.selects RX7 yX7_isClaim yX7_isClaim, Cond.code yX7_isClaim cX7_isClaim 2 (some .boolean), Cond.methodLink RX7 67 yX7_hasNoCase, Cond.instanceMethod yX7_hasNoCase, Cond.selects RX7 yX7_hasNoCase yX7_hasNoCase, Cond.code yX7_hasNoCase cX7_hasNoCase 2 (some .boolean), Cond.methodLink RX7 73 yX7_layAnswered, Cond.instanceMethod yX7_layAnswered, Cond.selects RX7 yX7_layAnswered yX7_layAnswered, Cond.code yX7_layAnswered cX7_layAnswered 5 none, Cond.methodLink RX7 50 yX7_in, Cond.static yX7_in]
def wsX7_toStand_r3 : List Cond := [Cond.code yX7_in cX7_in 3 (some .boolean), Cond.methodLink RX7 128 yX7_answersTo, Cond.instanceMethod yX7_answersTo, Cond.selects RX7 yX7_answersTo yX7_answersTo, Cond.code yX7_answersTo cX7_answersTo 4 (some .int)]
def wsX7_toStand : List Cond := .code yX7_toStand cX7_toStand 2 (some .int) :: ((wsX7_toStand_r1 ++ (wsX7_toStand_r2 ++ wsX7_toStand_r3)) ++ wsX70)
def wsX7_changesBy_r1 : List Cond := [Cond.methodLink RX7 106 yX7_look, Cond.instanceMethod yX7_look, Cond.selects RX7 yX7_look yX7_look, Cond.initialized RX7, Cond.code yX7_look cX7_look 1 none, Cond.methodLink RX7 70 yX7_layOut, Cond.instanceMethod yX7_layOut, Cond.selects RX7 yX7_layOut yX7_layOut, Cond.code yX7_layOut cX7_layOut 4 none, Cond.fieldLink RX7 30 "PointAnswersModel" "taken" "[I", Cond.fieldLink RX7 7 "PointAnswersModel" "z" "[I", Cond.fieldLink RX7 27 "PointAnswersModel" "why" "[I", Cond.methodLink RX7 42 yX7_its, Cond.instanceMethod yX7_its, Cond.selects RX7 yX7_its yX7_its, Cond.code yX7_its cX7_its 3 (some .int), Cond.methodLink RX7 61 yX7_isWithdrawn, Cond.instanceMethod yX7_isWithdrawn, Cond.selects RX7 yX7_isWithdrawn yX7_isWithdrawn, Cond.code yX7_isWithdrawn cX7_isWithdrawn 2 (some .boolean), Cond.methodLink RX7 64 yX7_lapsed, Cond.instanceMethod yX7_lapsed, Cond.selects RX7 yX7_lapsed yX7_lapsed, Cond.code yX7_lapsed cX7_lapsed 2 (some .boolean)]
def wsX7_changesBy_r2 : List Cond := [Cond.methodLink RX7 57 yX7_isClaim, Cond.instanceMethod yX7_isClaim, Cond.selects RX7 yX7_isClaim yX7_isClaim, Cond.code yX7_isClaim cX7_isClaim 2 (some .boolean), Cond.methodLink RX7 67 yX7_hasNoCase, Cond.instanceMethod yX7_hasNoCase, Cond.selects RX7 yX7_hasNoCase yX7_hasNoCase, Cond.code yX7_hasNoCase cX7_hasNoCase 2 (some .boolean), Cond.methodLink RX7 73 yX7_layAnswered, Cond.instanceMethod yX7_layAnswered, Cond.selects RX7 yX7_layAnswered yX7_layAnswered, Cond.code yX7_layAnswered cX7_layAnswered 5 none, Cond.methodLink RX7 109 yX7_standing, Cond.instanceMethod yX7_standing, Cond.selects RX7 yX7_standing yX7_standing, Cond.code yX7_standing cX7_standing 3 (some .int), Cond.methodLink RX7 137 yX7_claims, Cond.instanceMethod yX7_claims, Cond.selects RX7 yX7_claims yX7_claims, Cond.code yX7_claims cX7_claims 3 (some .int), Cond.methodLink RX7 113 yX7_bits, Cond.static yX7_bits, Cond.code yX7_bits cX7_bits 3 (some .int)]
def wsX7_changesBy : List Cond := .code yX7_changesBy cX7_changesBy 3 (some .int) :: ((wsX7_changesBy_r1 ++ wsX7_changesBy_r2) ++ wsX70)
def wsX7_bestAnswer_r1 : List Cond := [Cond.fieldLink RX7 7 "PointAnswersModel" "z" "[I", Cond.fieldLink RX7 27 "PointAnswersModel" "why" "[I", Cond.methodLink RX7 50 yX7_in, Cond.static yX7_in, Cond.initialized RX7, Cond.code yX7_in cX7_in 3 (some .boolean), Cond.methodLink RX7 106 yX7_look, Cond.instanceMethod yX7_look, Cond.selects RX7 yX7_look yX7_look, Cond.code yX7_look cX7_look 1 none, Cond.methodLink RX7 70 yX7_layOut, Cond.instanceMethod yX7_layOut, Cond.selects RX7 yX7_layOut yX7_layOut, Cond.code yX7_layOut cX7_layOut 4 none, Cond.fieldLink RX7 30 "PointAnswersModel" "taken" "[I", Cond.methodLink RX7 42 yX7_its, Cond.instanceMethod yX7_its, Cond.selects RX7 yX7_its yX7_its, Cond.code yX7_its cX7_its 3 (some .int), Cond.methodLink RX7 61 yX7_isWithdrawn, Cond.instanceMethod yX7_isWithdrawn, Cond.selects RX7 yX7_isWithdrawn yX7_isWithdrawn, Cond.code yX7_isWithdrawn cX7_isWithdrawn 2 (some .boolean), Cond.methodLink RX7 64 yX7_lapsed]
def wsX7_bestAnswer_r2 : List Cond := [Cond.instanceMethod yX7_lapsed, Cond.selects RX7 yX7_lapsed yX7_lapsed, Cond.code yX7_lapsed cX7_lapsed 2 (some .boolean), Cond.methodLink RX7 57 yX7_isClaim, Cond.instanceMethod yX7_isClaim, Cond.selects RX7 yX7_isClaim yX7_isClaim, Cond.code yX7_isClaim cX7_isClaim 2 (some .boolean), Cond.methodLink RX7 67 yX7_hasNoCase, Cond.instanceMethod yX7_hasNoCase, Cond.selects RX7 yX7_hasNoCase yX7_hasNoCase, Cond.code yX7_hasNoCase cX7_hasNoCase 2 (some .boolean), Cond.methodLink RX7 73 yX7_layAnswered, Cond.instanceMethod yX7_layAnswered, Cond.selects RX7 yX7_layAnswered yX7_layAnswered, Cond.code yX7_layAnswered cX7_layAnswered 5 none, Cond.methodLink RX7 128 yX7_answersTo, Cond.instanceMethod yX7_answersTo, Cond.selects RX7 yX7_answersTo yX7_answersTo, Cond.code yX7_answersTo cX7_answersTo 4 (some .int), Cond.methodLink RX7 161 yX7_changesBy, Cond.instanceMethod yX7_changesBy, Cond.selects RX7 yX7_changesBy yX7_changesBy, Cond.code yX7_changesBy cX7_changesBy 3 (some .int), Cond.methodLink RX7 109 yX7_standing]
def wsX7_bestAnswer_r3 : List Cond := [Cond.instanceMethod yX7_standing, Cond.selects RX7 yX7_standing yX7_standing, Cond.code yX7_standing cX7_standing 3 (some .int), Cond.methodLink RX7 137 yX7_claims, Cond.instanceMethod yX7_claims, Cond.selects RX7 yX7_claims yX7_claims, Cond.code yX7_claims cX7_claims 3 (some .int), Cond.methodLink RX7 113 yX7_bits, Cond.static yX7_bits, Cond.code yX7_bits cX7_bits 3 (some .int)]
def wsX7_bestAnswer : List Cond := .code yX7_bestAnswer cX7_bestAnswer 6 (some .int) :: ((wsX7_bestAnswer_r1 ++ (wsX7_bestAnswer_r2 ++ wsX7_bestAnswer_r3)) ++ wsX70)
def wsX7_changesIn_r1 : List Cond := [Cond.fieldLink RX7 7 "PointAnswersModel" "z" "[I", Cond.methodLink RX7 106 yX7_look, Cond.instanceMethod yX7_look, Cond.selects RX7 yX7_look yX7_look, Cond.initialized RX7, Cond.code yX7_look cX7_look 1 none, Cond.methodLink RX7 70 yX7_layOut, Cond.instanceMethod yX7_layOut, Cond.selects RX7 yX7_layOut yX7_layOut, Cond.code yX7_layOut cX7_layOut 4 none, Cond.fieldLink RX7 30 "PointAnswersModel" "taken" "[I", Cond.fieldLink RX7 27 "PointAnswersModel" "why" "[I", Cond.methodLink RX7 42 yX7_its, Cond.instanceMethod yX7_its, Cond.selects RX7 yX7_its yX7_its, Cond.code yX7_its cX7_its 3 (some .int), Cond.methodLink RX7 61 yX7_isWithdrawn, Cond.instanceMethod yX7_isWithdrawn, Cond.selects RX7 yX7_isWithdrawn yX7_isWithdrawn, Cond.code yX7_isWithdrawn cX7_isWithdrawn 2 (some .boolean), Cond.methodLink RX7 64 yX7_lapsed, Cond.instanceMethod yX7_lapsed, Cond.selects RX7 yX7_lapsed yX7_lapsed, Cond.code yX7_lapsed cX7_lapsed 2 (some .boolean)]
def wsX7_changesIn_r2 : List Cond := [Cond.methodLink RX7 57 yX7_isClaim, Cond.instanceMethod yX7_isClaim, Cond.selects RX7 yX7_isClaim yX7_isClaim, Cond.code yX7_isClaim cX7_isClaim 2 (some .boolean), Cond.methodLink RX7 67 yX7_hasNoCase, Cond.instanceMethod yX7_hasNoCase, Cond.selects RX7 yX7_hasNoCase yX7_hasNoCase, Cond.code yX7_hasNoCase cX7_hasNoCase 2 (some .boolean), Cond.methodLink RX7 73 yX7_layAnswered, Cond.instanceMethod yX7_layAnswered, Cond.selects RX7 yX7_layAnswered yX7_layAnswered, Cond.code yX7_layAnswered cX7_layAnswered 5 none, Cond.methodLink RX7 109 yX7_standing, Cond.instanceMethod yX7_standing, Cond.selects RX7 yX7_standing yX7_standing, Cond.code yX7_standing cX7_standing 3 (some .int)]
def wsX7_changesIn : List Cond := .code yX7_changesIn cX7_changesIn 5 (some .int) :: ((wsX7_changesIn_r1 ++ wsX7_changesIn_r2) ++ wsX70)
def wsX7_leastPages : List Cond := .code yX7_leastPages cX7_leastPages 5 (some .int) :: ([.fieldLink RX7 7 "PointAnswersModel" "z" "[I", .methodLink RX7 42 yX7_its, .instanceMethod yX7_its, .selects RX7 yX7_its yX7_its, .initialized RX7, .code yX7_its cX7_its 3 (some .int), .methodLink RX7 61 yX7_isWithdrawn, .instanceMethod yX7_isWithdrawn, .selects RX7 yX7_isWithdrawn yX7_isWithdrawn, .code yX7_isWithdrawn cX7_isWithdrawn 2 (some .boolean)] ++ wsX70)
def wsX7_put : List Cond := .code yX7_put cX7_put 8 (some .int) :: ([.constantLong RX7 164 (255), .fieldLink RX7 146 "PointAnswersModel" "typed" "I", .fieldLink RX7 23 "PointAnswersModel" "pad" "[C", .methodLink RX7 50 yX7_in, .static yX7_in, .initialized RX7, .code yX7_in cX7_in 3 (some .boolean)] ++ wsX70)
def wsX7_wipe : List Cond := .code yX7_wipe cX7_wipe 2 (some .int) :: ([.fieldLink RX7 146 "PointAnswersModel" "typed" "I"] ++ wsX70)
def wsX7_letter : List Cond := .code yX7_letter cX7_letter 1 (some .int) :: ([.fieldLink RX7 166 "PointAnswersModel" "spot" "I", .fieldLink RX7 146 "PointAnswersModel" "typed" "I", .fieldLink RX7 23 "PointAnswersModel" "pad" "[C"] ++ wsX70)
def wsX7_wants : List Cond := .code yX7_wants cX7_wants 2 none :: ([.fieldLink RX7 169 "PointAnswersModel" "wrong" "I", .fieldLink RX7 166 "PointAnswersModel" "spot" "I"] ++ wsX70)
def wsX7_digit : List Cond := .code yX7_digit cX7_digit 4 (some .int) :: ([.methodLink RX7 172 yX7_letter, .instanceMethod yX7_letter, .selects RX7 yX7_letter yX7_letter, .initialized RX7, .code yX7_letter cX7_letter 1 (some .int), .fieldLink RX7 166 "PointAnswersModel" "spot" "I", .fieldLink RX7 146 "PointAnswersModel" "typed" "I", .fieldLink RX7 23 "PointAnswersModel" "pad" "[C", .methodLink RX7 50 yX7_in, .static yX7_in, .code yX7_in cX7_in 3 (some .boolean), .methodLink RX7 175 yX7_wants, .instanceMethod yX7_wants, .selects RX7 yX7_wants yX7_wants, .code yX7_wants cX7_wants 2 none, .fieldLink RX7 169 "PointAnswersModel" "wrong" "I"] ++ wsX70)
def wsX7_number : List Cond := .code yX7_number cX7_number 3 (some .int) :: ([.fieldLink RX7 169 "PointAnswersModel" "wrong" "I", .fieldLink RX7 166 "PointAnswersModel" "spot" "I", .methodLink RX7 179 yX7_digit, .instanceMethod yX7_digit, .selects RX7 yX7_digit yX7_digit, .initialized RX7, .code yX7_digit cX7_digit 4 (some .int), .methodLink RX7 172 yX7_letter, .instanceMethod yX7_letter, .selects RX7 yX7_letter yX7_letter, .code yX7_letter cX7_letter 1 (some .int), .fieldLink RX7 146 "PointAnswersModel" "typed" "I", .fieldLink RX7 23 "PointAnswersModel" "pad" "[C", .methodLink RX7 50 yX7_in, .static yX7_in, .code yX7_in cX7_in 3 (some .boolean), .methodLink RX7 175 yX7_wants, .instanceMethod yX7_wants, .selects RX7 yX7_wants yX7_wants, .code yX7_wants cX7_wants 2 none] ++ wsX70)
def wsX7_cites : List Cond := .code yX7_cites cX7_cites 3 (some .int) :: ([.fieldLink RX7 169 "PointAnswersModel" "wrong" "I", .fieldLink RX7 166 "PointAnswersModel" "spot" "I", .methodLink RX7 172 yX7_letter, .instanceMethod yX7_letter, .selects RX7 yX7_letter yX7_letter, .initialized RX7, .code yX7_letter cX7_letter 1 (some .int), .fieldLink RX7 146 "PointAnswersModel" "typed" "I", .fieldLink RX7 23 "PointAnswersModel" "pad" "[C", .methodLink RX7 179 yX7_digit, .instanceMethod yX7_digit, .selects RX7 yX7_digit yX7_digit, .code yX7_digit cX7_digit 4 (some .int), .methodLink RX7 50 yX7_in, .static yX7_in, .code yX7_in cX7_in 3 (some .boolean), .methodLink RX7 175 yX7_wants, .instanceMethod yX7_wants, .selects RX7 yX7_wants yX7_wants, .code yX7_wants cX7_wants 2 none] ++ wsX70)
def wsX7_readOrder_r1 : List Cond := [Cond.fieldLink RX7 182 "PointAnswersModel" "orderMany" "I", Cond.fieldLink RX7 39 "PointAnswersModel" "orders" "[I", Cond.methodLink RX7 172 yX7_letter, Cond.instanceMethod yX7_letter, Cond.selects RX7 yX7_letter yX7_letter, Cond.initialized RX7, Cond.code yX7_letter cX7_letter 1 (some .int), Cond.fieldLink RX7 166 "PointAnswersModel" "spot" "I", Cond.fieldLink RX7 146 "PointAnswersModel" "typed" "I", Cond.fieldLink RX7 23 "PointAnswersModel" "pad" "[C", Cond.methodLink RX7 175 yX7_wants, Cond.instanceMethod yX7_wants, Cond.selects RX7 yX7_wants yX7_wants, Cond.code yX7_wants cX7_wants 2 none, Cond.fieldLink RX7 169 "PointAnswersModel" "wrong" "I", Cond.methodLink RX7 179 yX7_digit, Cond.instanceMethod yX7_digit, Cond.selects RX7 yX7_digit yX7_digit, Cond.code yX7_digit cX7_digit 4 (some .int), Cond.methodLink RX7 50 yX7_in, Cond.static yX7_in, Cond.code yX7_in cX7_in 3 (some .boolean), Cond.methodLink RX7 185 yX7_number, Cond.instanceMethod yX7_number]
def wsX7_readOrder_r2 : List Cond := [Cond.selects RX7 yX7_number yX7_number, Cond.code yX7_number cX7_number 3 (some .int), Cond.methodLink RX7 188 yX7_cites, Cond.instanceMethod yX7_cites, Cond.selects RX7 yX7_cites yX7_cites, Cond.code yX7_cites cX7_cites 3 (some .int)]
def wsX7_readOrder : List Cond := .code yX7_readOrder cX7_readOrder 3 none :: ((wsX7_readOrder_r1 ++ wsX7_readOrder_r2) ++ wsX70)
def wsX7_readPad_r1 : List Cond := [Cond.fieldLink RX7 182 "PointAnswersModel" "orderMany" "I", Cond.fieldLink RX7 166 "PointAnswersModel" "spot" "I", Cond.fieldLink RX7 169 "PointAnswersModel" "wrong" "I", Cond.fieldLink RX7 146 "PointAnswersModel" "typed" "I", Cond.methodLink RX7 191 yX7_readOrder, Cond.instanceMethod yX7_readOrder, Cond.selects RX7 yX7_readOrder yX7_readOrder, Cond.initialized RX7, Cond.code yX7_readOrder cX7_readOrder 3 none, Cond.fieldLink RX7 39 "PointAnswersModel" "orders" "[I", Cond.methodLink RX7 172 yX7_letter, Cond.instanceMethod yX7_letter, Cond.selects RX7 yX7_letter yX7_letter, Cond.code yX7_letter cX7_letter 1 (some .int), Cond.fieldLink RX7 23 "PointAnswersModel" "pad" "[C", Cond.methodLink RX7 175 yX7_wants, Cond.instanceMethod yX7_wants, Cond.selects RX7 yX7_wants yX7_wants, Cond.code yX7_wants cX7_wants 2 none, Cond.methodLink RX7 179 yX7_digit, Cond.instanceMethod yX7_digit, Cond.selects RX7 yX7_digit yX7_digit, Cond.code yX7_digit cX7_digit 4 (some .int), Cond.methodLink RX7 50 yX7_in]
def wsX7_readPad_r2 : List Cond := [Cond.static yX7_in, Cond.code yX7_in cX7_in 3 (some .boolean), Cond.methodLink RX7 185 yX7_number, Cond.instanceMethod yX7_number, Cond.selects RX7 yX7_number yX7_number, Cond.code yX7_number cX7_number 3 (some .int), Cond.methodLink RX7 188 yX7_cites, Cond.instanceMethod yX7_cites, Cond.selects RX7 yX7_cites yX7_cites, Cond.code yX7_cites cX7_cites 3 (some .int)]
def wsX7_readPad : List Cond := .code yX7_readPad cX7_readPad 2 (some .int) :: ((wsX7_readPad_r1 ++ wsX7_readPad_r2) ++ wsX70)
def wsX7_fault_r1 : List Cond := [Cond.methodLink RX7 194 yX7_readPad, Cond.instanceMethod yX7_readPad, Cond.selects RX7 yX7_readPad yX7_readPad, Cond.initialized RX7, Cond.code yX7_readPad cX7_readPad 2 (some .int), Cond.fieldLink RX7 182 "PointAnswersModel" "orderMany" "I", Cond.fieldLink RX7 166 "PointAnswersModel" "spot" "I", Cond.fieldLink RX7 169 "PointAnswersModel" "wrong" "I", Cond.fieldLink RX7 146 "PointAnswersModel" "typed" "I", Cond.methodLink RX7 191 yX7_readOrder, Cond.instanceMethod yX7_readOrder, Cond.selects RX7 yX7_readOrder yX7_readOrder, Cond.code yX7_readOrder cX7_readOrder 3 none, Cond.fieldLink RX7 39 "PointAnswersModel" "orders" "[I", Cond.methodLink RX7 172 yX7_letter, Cond.instanceMethod yX7_letter, Cond.selects RX7 yX7_letter yX7_letter, Cond.code yX7_letter cX7_letter 1 (some .int), Cond.fieldLink RX7 23 "PointAnswersModel" "pad" "[C", Cond.methodLink RX7 175 yX7_wants, Cond.instanceMethod yX7_wants, Cond.selects RX7 yX7_wants yX7_wants, Cond.code yX7_wants cX7_wants 2 none, Cond.methodLink RX7 179 yX7_digit]
def wsX7_fault_r2 : List Cond := [Cond.instanceMethod yX7_digit, Cond.selects RX7 yX7_digit yX7_digit, Cond.code yX7_digit cX7_digit 4 (some .int), Cond.methodLink RX7 50 yX7_in, Cond.static yX7_in, Cond.code yX7_in cX7_in 3 (some .boolean), Cond.methodLink RX7 185 yX7_number, Cond.instanceMethod yX7_number, Cond.selects RX7 yX7_number yX7_number, Cond.code yX7_number cX7_number 3 (some .int), Cond.methodLink RX7 188 yX7_cites, Cond.instanceMethod yX7_cites, Cond.selects RX7 yX7_cites yX7_cites, Cond.code yX7_cites cX7_cites 3 (some .int)]
def wsX7_fault : List Cond := .code yX7_fault cX7_fault 1 (some .int) :: ((wsX7_fault_r1 ++ wsX7_fault_r2) ++ wsX70)
def wsX7_whyNot_r1 : List Cond := [Cond.methodLink RX7 88 yX7_whyNotClaim, Cond.instanceMethod yX7_whyNotClaim, Cond.selects RX7 yX7_whyNotClaim yX7_whyNotClaim, Cond.initialized RX7, Cond.code yX7_whyNotClaim cX7_whyNotClaim 4 (some .int), Cond.fieldLink RX7 7 "PointAnswersModel" "z" "[I", Cond.methodLink RX7 50 yX7_in, Cond.static yX7_in, Cond.code yX7_in cX7_in 3 (some .boolean), Cond.methodLink RX7 85 yX7_isFile, Cond.static yX7_isFile, Cond.code yX7_isFile cX7_isFile 2 (some .boolean), Cond.methodLink RX7 99 yX7_whyNotAnswer, Cond.instanceMethod yX7_whyNotAnswer, Cond.selects RX7 yX7_whyNotAnswer yX7_whyNotAnswer, Cond.code yX7_whyNotAnswer cX7_whyNotAnswer 4 (some .int), Cond.methodLink RX7 96 yX7_isPoint, Cond.instanceMethod yX7_isPoint, Cond.selects RX7 yX7_isPoint yX7_isPoint, Cond.code yX7_isPoint cX7_isPoint 2 (some .boolean), Cond.methodLink RX7 61 yX7_isWithdrawn, Cond.instanceMethod yX7_isWithdrawn, Cond.selects RX7 yX7_isWithdrawn yX7_isWithdrawn, Cond.code yX7_isWithdrawn cX7_isWithdrawn 2 (some .boolean)]
def wsX7_whyNot_r2 : List Cond := [Cond.methodLink RX7 42 yX7_its, Cond.instanceMethod yX7_its, Cond.selects RX7 yX7_its yX7_its, Cond.code yX7_its cX7_its 3 (some .int), Cond.methodLink RX7 102 yX7_whyNotWithdraw, Cond.instanceMethod yX7_whyNotWithdraw, Cond.selects RX7 yX7_whyNotWithdraw yX7_whyNotWithdraw, Cond.code yX7_whyNotWithdraw cX7_whyNotWithdraw 2 (some .int), Cond.methodLink RX7 116 yX7_whyNotRenew, Cond.instanceMethod yX7_whyNotRenew, Cond.selects RX7 yX7_whyNotRenew yX7_whyNotRenew, Cond.code yX7_whyNotRenew cX7_whyNotRenew 2 (some .int), Cond.methodLink RX7 57 yX7_isClaim, Cond.instanceMethod yX7_isClaim, Cond.selects RX7 yX7_isClaim yX7_isClaim, Cond.code yX7_isClaim cX7_isClaim 2 (some .boolean), Cond.methodLink RX7 122 yX7_whyNotPass, Cond.instanceMethod yX7_whyNotPass, Cond.selects RX7 yX7_whyNotPass yX7_whyNotPass, Cond.code yX7_whyNotPass cX7_whyNotPass 2 (some .int)]
def wsX7_whyNot : List Cond := .code yX7_whyNot cX7_whyNot 5 (some .int) :: ((wsX7_whyNot_r1 ++ wsX7_whyNot_r2) ++ wsX70)
def wsX7_does_r1 : List Cond := [Cond.fieldLink RX7 39 "PointAnswersModel" "orders" "[I", Cond.fieldLink RX7 7 "PointAnswersModel" "z" "[I", Cond.methodLink RX7 197 yX7_whyNot, Cond.instanceMethod yX7_whyNot, Cond.selects RX7 yX7_whyNot yX7_whyNot, Cond.initialized RX7, Cond.code yX7_whyNot cX7_whyNot 5 (some .int), Cond.methodLink RX7 88 yX7_whyNotClaim, Cond.instanceMethod yX7_whyNotClaim, Cond.selects RX7 yX7_whyNotClaim yX7_whyNotClaim, Cond.code yX7_whyNotClaim cX7_whyNotClaim 4 (some .int), Cond.methodLink RX7 50 yX7_in, Cond.static yX7_in, Cond.code yX7_in cX7_in 3 (some .boolean), Cond.methodLink RX7 85 yX7_isFile, Cond.static yX7_isFile, Cond.code yX7_isFile cX7_isFile 2 (some .boolean), Cond.methodLink RX7 99 yX7_whyNotAnswer, Cond.instanceMethod yX7_whyNotAnswer, Cond.selects RX7 yX7_whyNotAnswer yX7_whyNotAnswer, Cond.code yX7_whyNotAnswer cX7_whyNotAnswer 4 (some .int), Cond.methodLink RX7 96 yX7_isPoint, Cond.instanceMethod yX7_isPoint, Cond.selects RX7 yX7_isPoint yX7_isPoint]
def wsX7_does_r2 : List Cond := [Cond.code yX7_isPoint cX7_isPoint 2 (some .boolean), Cond.methodLink RX7 61 yX7_isWithdrawn, Cond.instanceMethod yX7_isWithdrawn, Cond.selects RX7 yX7_isWithdrawn yX7_isWithdrawn, Cond.code yX7_isWithdrawn cX7_isWithdrawn 2 (some .boolean), Cond.methodLink RX7 42 yX7_its, Cond.instanceMethod yX7_its, Cond.selects RX7 yX7_its yX7_its, Cond.code yX7_its cX7_its 3 (some .int), Cond.methodLink RX7 102 yX7_whyNotWithdraw, Cond.instanceMethod yX7_whyNotWithdraw, Cond.selects RX7 yX7_whyNotWithdraw yX7_whyNotWithdraw, Cond.code yX7_whyNotWithdraw cX7_whyNotWithdraw 2 (some .int), Cond.methodLink RX7 116 yX7_whyNotRenew, Cond.instanceMethod yX7_whyNotRenew, Cond.selects RX7 yX7_whyNotRenew yX7_whyNotRenew, Cond.code yX7_whyNotRenew cX7_whyNotRenew 2 (some .int), Cond.methodLink RX7 57 yX7_isClaim, Cond.instanceMethod yX7_isClaim, Cond.selects RX7 yX7_isClaim yX7_isClaim, Cond.code yX7_isClaim cX7_isClaim 2 (some .boolean), Cond.methodLink RX7 122 yX7_whyNotPass, Cond.instanceMethod yX7_whyNotPass, Cond.selects RX7 yX7_whyNotPass yX7_whyNotPass]
def wsX7_does_r3 : List Cond := [Cond.code yX7_whyNotPass cX7_whyNotPass 2 (some .int), Cond.methodLink RX7 92 yX7_file, Cond.instanceMethod yX7_file, Cond.selects RX7 yX7_file yX7_file, Cond.code yX7_file cX7_file 6 (some .int), Cond.methodLink RX7 81 yX7_lay, Cond.instanceMethod yX7_lay, Cond.selects RX7 yX7_lay yX7_lay, Cond.code yX7_lay cX7_lay 4 none, Cond.methodLink RX7 119 yX7_overruleIt, Cond.instanceMethod yX7_overruleIt, Cond.selects RX7 yX7_overruleIt yX7_overruleIt, Cond.code yX7_overruleIt cX7_overruleIt 2 (some .int)]
def wsX7_does : List Cond := .code yX7_does cX7_does 5 (some .boolean) :: ((wsX7_does_r1 ++ (wsX7_does_r2 ++ wsX7_does_r3)) ++ wsX70)
def wsX7_carryOut_r1 : List Cond := [Cond.fieldLink RX7 182 "PointAnswersModel" "orderMany" "I", Cond.fieldLink RX7 146 "PointAnswersModel" "typed" "I", Cond.methodLink RX7 194 yX7_readPad, Cond.instanceMethod yX7_readPad, Cond.selects RX7 yX7_readPad yX7_readPad, Cond.initialized RX7, Cond.code yX7_readPad cX7_readPad 2 (some .int), Cond.fieldLink RX7 166 "PointAnswersModel" "spot" "I", Cond.fieldLink RX7 169 "PointAnswersModel" "wrong" "I", Cond.methodLink RX7 191 yX7_readOrder, Cond.instanceMethod yX7_readOrder, Cond.selects RX7 yX7_readOrder yX7_readOrder, Cond.code yX7_readOrder cX7_readOrder 3 none, Cond.fieldLink RX7 39 "PointAnswersModel" "orders" "[I", Cond.methodLink RX7 172 yX7_letter, Cond.instanceMethod yX7_letter, Cond.selects RX7 yX7_letter yX7_letter, Cond.code yX7_letter cX7_letter 1 (some .int), Cond.fieldLink RX7 23 "PointAnswersModel" "pad" "[C", Cond.methodLink RX7 175 yX7_wants, Cond.instanceMethod yX7_wants, Cond.selects RX7 yX7_wants yX7_wants, Cond.code yX7_wants cX7_wants 2 none, Cond.methodLink RX7 179 yX7_digit]
def wsX7_carryOut_r2 : List Cond := [Cond.instanceMethod yX7_digit, Cond.selects RX7 yX7_digit yX7_digit, Cond.code yX7_digit cX7_digit 4 (some .int), Cond.methodLink RX7 50 yX7_in, Cond.static yX7_in, Cond.code yX7_in cX7_in 3 (some .boolean), Cond.methodLink RX7 185 yX7_number, Cond.instanceMethod yX7_number, Cond.selects RX7 yX7_number yX7_number, Cond.code yX7_number cX7_number 3 (some .int), Cond.methodLink RX7 188 yX7_cites, Cond.instanceMethod yX7_cites, Cond.selects RX7 yX7_cites yX7_cites, Cond.code yX7_cites cX7_cites 3 (some .int), Cond.methodLink RX7 54 yX7_record, Cond.instanceMethod yX7_record, Cond.selects RX7 yX7_record yX7_record, Cond.code yX7_record cX7_record 2 none, Cond.fieldLink RX7 46 "PointAnswersModel" "pastMany" "I", Cond.fieldLink RX7 13 "PointAnswersModel" "past" "[I", Cond.fieldLink RX7 7 "PointAnswersModel" "z" "[I", Cond.methodLink RX7 200 yX7_does, Cond.instanceMethod yX7_does, Cond.selects RX7 yX7_does yX7_does]
def wsX7_carryOut_r3 : List Cond := [Cond.code yX7_does cX7_does 5 (some .boolean), Cond.methodLink RX7 197 yX7_whyNot, Cond.instanceMethod yX7_whyNot, Cond.selects RX7 yX7_whyNot yX7_whyNot, Cond.code yX7_whyNot cX7_whyNot 5 (some .int), Cond.methodLink RX7 88 yX7_whyNotClaim, Cond.instanceMethod yX7_whyNotClaim, Cond.selects RX7 yX7_whyNotClaim yX7_whyNotClaim, Cond.code yX7_whyNotClaim cX7_whyNotClaim 4 (some .int), Cond.methodLink RX7 85 yX7_isFile, Cond.static yX7_isFile, Cond.code yX7_isFile cX7_isFile 2 (some .boolean), Cond.methodLink RX7 99 yX7_whyNotAnswer, Cond.instanceMethod yX7_whyNotAnswer, Cond.selects RX7 yX7_whyNotAnswer yX7_whyNotAnswer, Cond.code yX7_whyNotAnswer cX7_whyNotAnswer 4 (some .int), Cond.methodLink RX7 96 yX7_isPoint, Cond.instanceMethod yX7_isPoint, Cond.selects RX7 yX7_isPoint yX7_isPoint, Cond.code yX7_isPoint cX7_isPoint 2 (some .boolean), Cond.methodLink RX7 61 yX7_isWithdrawn, Cond.instanceMethod yX7_isWithdrawn, Cond.selects RX7 yX7_isWithdrawn yX7_isWithdrawn, Cond.code yX7_isWithdrawn cX7_isWithdrawn 2 (some .boolean)]
def wsX7_carryOut_r4 : List Cond := [Cond.methodLink RX7 42 yX7_its, Cond.instanceMethod yX7_its, Cond.selects RX7 yX7_its yX7_its, Cond.code yX7_its cX7_its 3 (some .int), Cond.methodLink RX7 102 yX7_whyNotWithdraw, Cond.instanceMethod yX7_whyNotWithdraw, Cond.selects RX7 yX7_whyNotWithdraw yX7_whyNotWithdraw, Cond.code yX7_whyNotWithdraw cX7_whyNotWithdraw 2 (some .int), Cond.methodLink RX7 116 yX7_whyNotRenew, Cond.instanceMethod yX7_whyNotRenew, Cond.selects RX7 yX7_whyNotRenew yX7_whyNotRenew, Cond.code yX7_whyNotRenew cX7_whyNotRenew 2 (some .int), Cond.methodLink RX7 57 yX7_isClaim, Cond.instanceMethod yX7_isClaim, Cond.selects RX7 yX7_isClaim yX7_isClaim, Cond.code yX7_isClaim cX7_isClaim 2 (some .boolean), Cond.methodLink RX7 122 yX7_whyNotPass, Cond.instanceMethod yX7_whyNotPass, Cond.selects RX7 yX7_whyNotPass yX7_whyNotPass, Cond.code yX7_whyNotPass cX7_whyNotPass 2 (some .int), Cond.methodLink RX7 92 yX7_file, Cond.instanceMethod yX7_file, Cond.selects RX7 yX7_file yX7_file, Cond.code yX7_file cX7_file 6 (some .int)]
def wsX7_carryOut_r5 : List Cond := [Cond.methodLink RX7 81 yX7_lay, Cond.instanceMethod yX7_lay, Cond.selects RX7 yX7_lay yX7_lay, Cond.code yX7_lay cX7_lay 4 none, Cond.methodLink RX7 119 yX7_overruleIt, Cond.instanceMethod yX7_overruleIt, Cond.selects RX7 yX7_overruleIt yX7_overruleIt, Cond.code yX7_overruleIt cX7_overruleIt 2 (some .int)]
def wsX7_carryOut : List Cond := .code yX7_carryOut cX7_carryOut 2 (some .int) :: ((wsX7_carryOut_r1 ++ (wsX7_carryOut_r2 ++ (wsX7_carryOut_r3 ++ (wsX7_carryOut_r4 ++ wsX7_carryOut_r5)))) ++ wsX70)
def wsJ9_max_7cf53 : List Cond := .code yJ9_max_7cf53 cJ9_max_7cf53 2 (some .int) :: ([])
def wsJ9_min_7cf53 : List Cond := .code yJ9_min_7cf53 cJ9_min_7cf53 2 (some .int) :: ([])
def wsL_law_r1 : List Cond := [Cond.classLink RL 7 RX6, Cond.instantiable RX6 7, Cond.initialized RX6, Cond.classLink RL 10 RX7, Cond.instantiable RX7 15, Cond.initialized RX7, Cond.constantLong RL 81 (4294967295), Cond.methodLink RL 9 yX6_init, Cond.instanceMethod yX6_init, Cond.code yX6_init cX6_init 2 none, Cond.methodLink RX6 3 objectInit, Cond.instanceMethod objectInit, Cond.code objectInit ⟨#[0xb1]⟩ 1 none, Cond.classLink RX6 9 RX0, Cond.instantiable RX0 6, Cond.initialized RX0, Cond.fieldLink RX6 12 "PointAnswers" "now" "LPointAnswers$Bundle;", Cond.classLink RX6 16 RX1, Cond.instantiable RX1 2, Cond.initialized RX1, Cond.fieldLink RX6 19 "PointAnswers" "costs" "LPointAnswers$Costs;", Cond.classLink RX6 23 RX3, Cond.instantiable RX3 2, Cond.initialized RX3]
def wsL_law_r2 : List Cond := [Cond.fieldLink RX6 26 "PointAnswers" "pad" "LPointAnswers$Pad;", Cond.classLink RX6 30 RX5, Cond.instantiable RX5 6, Cond.initialized RX5, Cond.fieldLink RX6 33 "PointAnswers" "reader" "LPointAnswers$Reader;", Cond.classLink RX6 37 RX2, Cond.instantiable RX2 2, Cond.initialized RX2, Cond.fieldLink RX6 40 "PointAnswers" "history" "LPointAnswers$History;", Cond.fieldLink RX6 44 "PointAnswers" "slots" "[LPointAnswers$Bundle;", Cond.instanceMethod yX0_init, Cond.code yX0_init cX0_init 2 none, Cond.methodLink RX0 3 objectInit, Cond.classLink RX0 9 RX4, Cond.fieldLink RX0 11 "PointAnswers$Bundle" "rows" "[LPointAnswers$Point;", Cond.fieldLink RX0 17 "PointAnswers$Bundle" "lapse" "I", Cond.fieldLink RX0 21 "PointAnswers$Bundle" "allowedPages" "I", Cond.instantiable RX4 7, Cond.initialized RX4, Cond.instanceMethod yX4_init, Cond.code yX4_init cX4_init 1 none, Cond.methodLink RX4 1 objectInit, Cond.instanceMethod yX1_init, Cond.code yX1_init cX1_init 1 none]
def wsL_law_r3 : List Cond := [Cond.methodLink RX1 3 objectInit, Cond.arrayClass .int, Cond.fieldLink RX1 9 "PointAnswers$Costs" "fall" "[I", Cond.fieldLink RX1 15 "PointAnswers$Costs" "stand" "[I", Cond.instanceMethod yX3_init, Cond.code yX3_init cX3_init 1 none, Cond.methodLink RX3 3 objectInit, Cond.arrayClass .char, Cond.fieldLink RX3 9 "PointAnswers$Pad" "signs" "[C", Cond.instanceMethod yX5_init, Cond.code yX5_init cX5_init 1 none, Cond.methodLink RX5 3 objectInit, Cond.instanceMethod yX2_init, Cond.code yX2_init cX2_init 2 none, Cond.methodLink RX2 3 objectInit, Cond.classLink RX2 9 RX0, Cond.fieldLink RX2 11 "PointAnswers$History" "rows" "[LPointAnswers$Bundle;", Cond.methodLink RL 12 yX7_init, Cond.instanceMethod yX7_init, Cond.code yX7_init cX7_init 1 none, Cond.methodLink RX7 1 objectInit, Cond.fieldLink RX7 7 "PointAnswersModel" "z" "[I", Cond.fieldLink RX7 13 "PointAnswersModel" "past" "[I", Cond.fieldLink RX7 16 "PointAnswersModel" "slots" "[I"]
def wsL_law_r4 : List Cond := [Cond.arrayClass .boolean, Cond.fieldLink RX7 19 "PointAnswersModel" "isSaved" "[Z", Cond.fieldLink RX7 23 "PointAnswersModel" "pad" "[C", Cond.fieldLink RX7 27 "PointAnswersModel" "why" "[I", Cond.fieldLink RX7 30 "PointAnswersModel" "taken" "[I", Cond.fieldLink RX7 33 "PointAnswersModel" "stands" "[I", Cond.fieldLink RX7 36 "PointAnswersModel" "falls" "[I", Cond.fieldLink RX7 39 "PointAnswersModel" "orders" "[I", Cond.methodLink RL 13 yX6_set, Cond.instanceMethod yX6_set, Cond.selects RX6 yX6_set yX6_set, Cond.code yX6_set cX6_set 3 (some .int), Cond.instanceMethod yX2_prepare, Cond.selects RX2 yX2_prepare yX2_prepare, Cond.code yX2_prepare cX2_prepare 3 none, Cond.fieldLink RX2 18 "PointAnswers$History" "kept" "I", Cond.methodLink RX2 22 yX2_rowAt, Cond.instanceMethod yX2_rowAt, Cond.selects RX2 yX2_rowAt yX2_rowAt, Cond.code yX2_rowAt cX2_rowAt 2 (some (.object "PointAnswers$Bundle")), Cond.instanceMethod yX0_become, Cond.selects RX0 yX0_become yX0_become, Cond.code yX0_become cX0_become 5 none, Cond.fieldLink RX0 25 "PointAnswers$Bundle" "size" "I"]
def wsL_law_r5 : List Cond := [Cond.fieldLink RX0 28 "PointAnswers$Bundle" "day" "I", Cond.fieldLink RX0 31 "PointAnswers$Bundle" "overruled" "I", Cond.methodLink RX0 34 yX0_find, Cond.instanceMethod yX0_find, Cond.selects RX0 yX0_find yX0_find, Cond.code yX0_find cX0_find 2 (some (.object "PointAnswers$Point")), Cond.instanceMethod yX4_become, Cond.selects RX4 yX4_become yX4_become, Cond.code yX4_become cX4_become 2 none, Cond.fieldLink RX4 7 "PointAnswers$Point" "side" "I", Cond.fieldLink RX4 13 "PointAnswers$Point" "pages" "I", Cond.fieldLink RX4 16 "PointAnswers$Point" "cases" "I", Cond.fieldLink RX4 19 "PointAnswers$Point" "target" "I", Cond.fieldLink RX4 22 "PointAnswers$Point" "filed" "I", Cond.fieldLink RX4 25 "PointAnswers$Point" "lastsFrom" "I", Cond.fieldLink RX4 28 "PointAnswers$Point" "withdrawn" "Z", Cond.instanceMethod yX0_adjust, Cond.selects RX0 yX0_adjust yX0_adjust, Cond.code yX0_adjust cX0_adjust 4 (some .int), Cond.instanceMethod yX2_settle, Cond.selects RX2 yX2_settle yX2_settle, Cond.code yX2_settle cX2_settle 2 (some .int), Cond.methodLink RX2 30 yX2_dropOldest, Cond.instanceMethod yX2_dropOldest]
def wsL_law_r6 : List Cond := [Cond.selects RX2 yX2_dropOldest yX2_dropOldest, Cond.code yX2_dropOldest cX2_dropOldest 3 none, Cond.methodLink RL 17 yX7_set, Cond.instanceMethod yX7_set, Cond.selects RX7 yX7_set yX7_set, Cond.code yX7_set cX7_set 4 (some .int), Cond.methodLink RX7 50 yX7_in, Cond.static yX7_in, Cond.code yX7_in cX7_in 3 (some .boolean), Cond.methodLink RX7 77 yX7_isValue, Cond.static yX7_isValue, Cond.code yX7_isValue cX7_isValue 2 (some .boolean), Cond.methodLink RX7 54 yX7_record, Cond.instanceMethod yX7_record, Cond.selects RX7 yX7_record yX7_record, Cond.code yX7_record cX7_record 2 none, Cond.fieldLink RX7 46 "PointAnswersModel" "pastMany" "I", Cond.methodLink RL 18 yX6_claim, Cond.instanceMethod yX6_claim, Cond.selects RX6 yX6_claim yX6_claim, Cond.code yX6_claim cX6_claim 4 (some .int), Cond.instanceMethod yX0_fileClaim, Cond.selects RX0 yX0_fileClaim yX0_fileClaim, Cond.code yX0_fileClaim cX0_fileClaim 4 (some .int)]
def wsL_law_r7 : List Cond := [Cond.methodLink RX0 42 yX0_canBeFiled, Cond.static yX0_canBeFiled, Cond.code yX0_canBeFiled cX0_canBeFiled 2 (some .boolean), Cond.methodLink RX0 46 yX0_file, Cond.instanceMethod yX0_file, Cond.selects RX0 yX0_file yX0_file, Cond.code yX0_file cX0_file 6 (some .int), Cond.methodLink RX0 50 yX0_freeRow, Cond.instanceMethod yX0_freeRow, Cond.selects RX0 yX0_freeRow yX0_freeRow, Cond.code yX0_freeRow cX0_freeRow 1 (some (.object "PointAnswers$Point")), Cond.methodLink RL 22 yX7_claim, Cond.instanceMethod yX7_claim, Cond.selects RX7 yX7_claim yX7_claim, Cond.code yX7_claim cX7_claim 5 (some .int), Cond.methodLink RX7 88 yX7_whyNotClaim, Cond.instanceMethod yX7_whyNotClaim, Cond.selects RX7 yX7_whyNotClaim yX7_whyNotClaim, Cond.code yX7_whyNotClaim cX7_whyNotClaim 4 (some .int), Cond.methodLink RX7 85 yX7_isFile, Cond.static yX7_isFile, Cond.code yX7_isFile cX7_isFile 2 (some .boolean), Cond.methodLink RX7 92 yX7_file, Cond.instanceMethod yX7_file]
def wsL_law_r8 : List Cond := [Cond.selects RX7 yX7_file yX7_file, Cond.code yX7_file cX7_file 6 (some .int), Cond.methodLink RX7 81 yX7_lay, Cond.instanceMethod yX7_lay, Cond.selects RX7 yX7_lay yX7_lay, Cond.code yX7_lay cX7_lay 4 none, Cond.methodLink RL 23 yX6_answer, Cond.instanceMethod yX6_answer, Cond.selects RX6 yX6_answer yX6_answer, Cond.code yX6_answer cX6_answer 4 (some .int), Cond.instanceMethod yX0_fileAnswer, Cond.selects RX0 yX0_fileAnswer yX0_fileAnswer, Cond.code yX0_fileAnswer cX0_fileAnswer 5 (some .int), Cond.methodLink RL 26 yX7_answer, Cond.instanceMethod yX7_answer, Cond.selects RX7 yX7_answer yX7_answer, Cond.code yX7_answer cX7_answer 5 (some .int), Cond.methodLink RX7 99 yX7_whyNotAnswer, Cond.instanceMethod yX7_whyNotAnswer, Cond.selects RX7 yX7_whyNotAnswer yX7_whyNotAnswer, Cond.code yX7_whyNotAnswer cX7_whyNotAnswer 4 (some .int), Cond.methodLink RX7 96 yX7_isPoint, Cond.instanceMethod yX7_isPoint, Cond.selects RX7 yX7_isPoint yX7_isPoint]
def wsL_law_r9 : List Cond := [Cond.code yX7_isPoint cX7_isPoint 2 (some .boolean), Cond.methodLink RX7 61 yX7_isWithdrawn, Cond.instanceMethod yX7_isWithdrawn, Cond.selects RX7 yX7_isWithdrawn yX7_isWithdrawn, Cond.code yX7_isWithdrawn cX7_isWithdrawn 2 (some .boolean), Cond.methodLink RX7 42 yX7_its, Cond.instanceMethod yX7_its, Cond.selects RX7 yX7_its yX7_its, Cond.code yX7_its cX7_its 3 (some .int), Cond.methodLink RL 27 yX6_withdraw, Cond.instanceMethod yX6_withdraw, Cond.selects RX6 yX6_withdraw yX6_withdraw, Cond.code yX6_withdraw cX6_withdraw 2 (some .int), Cond.instanceMethod yX0_takeBack, Cond.selects RX0 yX0_takeBack yX0_takeBack, Cond.code yX0_takeBack cX0_takeBack 3 (some .int), Cond.methodLink RX0 76 yX0_standing, Cond.instanceMethod yX0_standing, Cond.selects RX0 yX0_standing yX0_standing, Cond.code yX0_standing cX0_standing 1 (some .int), Cond.methodLink RX0 109 yX0_out, Cond.instanceMethod yX0_out, Cond.selects RX0 yX0_out yX0_out, Cond.code yX0_out cX0_out 1 (some .int)]
def wsL_law_r10 : List Cond := [Cond.methodLink RX0 98 yX0_withdrawn, Cond.instanceMethod yX0_withdrawn, Cond.selects RX0 yX0_withdrawn yX0_withdrawn, Cond.code yX0_withdrawn cX0_withdrawn 4 (some .int), Cond.methodLink RX0 100 yX0_struck, Cond.instanceMethod yX0_struck, Cond.selects RX0 yX0_struck yX0_struck, Cond.code yX0_struck cX0_struck 6 (some .int), Cond.methodLink RX0 103 yX0_lapsedOn, Cond.instanceMethod yX0_lapsedOn, Cond.selects RX0 yX0_lapsedOn yX0_lapsedOn, Cond.code yX0_lapsedOn cX0_lapsedOn 5 (some .int), Cond.methodLink RX0 106 yX0_baseless, Cond.instanceMethod yX0_baseless, Cond.selects RX0 yX0_baseless yX0_baseless, Cond.code yX0_baseless cX0_baseless 4 (some .int), Cond.methodLink RX0 112 yX0_standingIf, Cond.instanceMethod yX0_standingIf, Cond.selects RX0 yX0_standingIf yX0_standingIf, Cond.code yX0_standingIf cX0_standingIf 6 (some .int), Cond.static yX6_has, Cond.code yX6_has cX6_has 2 (some .boolean), Cond.methodLink RX0 95 yX0_targetOf, Cond.instanceMethod yX0_targetOf]
def wsL_law_r11 : List Cond := [Cond.selects RX0 yX0_targetOf yX0_targetOf, Cond.code yX0_targetOf cX0_targetOf 3 (some .int), Cond.methodLink RX0 80 yJ6_bitCount_0f7a4, Cond.static yJ6_bitCount_0f7a4, Cond.initialized RJ6, Cond.code yJ6_bitCount_0f7a4 cJ6_bitCount_0f7a4 1 (some .int), Cond.constant RJ6 265 (1431655765), Cond.constant RJ6 266 (858993459), Cond.constant RJ6 267 (252645135), Cond.methodLink RL 31 yX7_withdraw, Cond.instanceMethod yX7_withdraw, Cond.selects RX7 yX7_withdraw yX7_withdraw, Cond.code yX7_withdraw cX7_withdraw 3 (some .int), Cond.methodLink RX7 102 yX7_whyNotWithdraw, Cond.instanceMethod yX7_whyNotWithdraw, Cond.selects RX7 yX7_whyNotWithdraw yX7_whyNotWithdraw, Cond.code yX7_whyNotWithdraw cX7_whyNotWithdraw 2 (some .int), Cond.methodLink RX7 106 yX7_look, Cond.instanceMethod yX7_look, Cond.selects RX7 yX7_look yX7_look, Cond.code yX7_look cX7_look 1 none, Cond.methodLink RX7 70 yX7_layOut, Cond.instanceMethod yX7_layOut, Cond.selects RX7 yX7_layOut yX7_layOut]
def wsL_law_r12 : List Cond := [Cond.code yX7_layOut cX7_layOut 4 none, Cond.methodLink RX7 64 yX7_lapsed, Cond.instanceMethod yX7_lapsed, Cond.selects RX7 yX7_lapsed yX7_lapsed, Cond.code yX7_lapsed cX7_lapsed 2 (some .boolean), Cond.methodLink RX7 57 yX7_isClaim, Cond.instanceMethod yX7_isClaim, Cond.selects RX7 yX7_isClaim yX7_isClaim, Cond.code yX7_isClaim cX7_isClaim 2 (some .boolean), Cond.methodLink RX7 67 yX7_hasNoCase, Cond.instanceMethod yX7_hasNoCase, Cond.selects RX7 yX7_hasNoCase yX7_hasNoCase, Cond.code yX7_hasNoCase cX7_hasNoCase 2 (some .boolean), Cond.methodLink RX7 73 yX7_layAnswered, Cond.instanceMethod yX7_layAnswered, Cond.selects RX7 yX7_layAnswered yX7_layAnswered, Cond.code yX7_layAnswered cX7_layAnswered 5 none, Cond.methodLink RX7 109 yX7_standing, Cond.instanceMethod yX7_standing, Cond.selects RX7 yX7_standing yX7_standing, Cond.code yX7_standing cX7_standing 3 (some .int), Cond.methodLink RX7 113 yX7_bits, Cond.static yX7_bits, Cond.code yX7_bits cX7_bits 3 (some .int)]
def wsL_law_r13 : List Cond := [Cond.methodLink RL 32 yX6_renew, Cond.instanceMethod yX6_renew, Cond.selects RX6 yX6_renew yX6_renew, Cond.code yX6_renew cX6_renew 2 (some .int), Cond.instanceMethod yX0_prolong, Cond.selects RX0 yX0_prolong yX0_prolong, Cond.code yX0_prolong cX0_prolong 4 (some .int), Cond.methodLink RL 35 yX7_renew, Cond.instanceMethod yX7_renew, Cond.selects RX7 yX7_renew yX7_renew, Cond.code yX7_renew cX7_renew 4 (some .int), Cond.methodLink RX7 116 yX7_whyNotRenew, Cond.instanceMethod yX7_whyNotRenew, Cond.selects RX7 yX7_whyNotRenew yX7_whyNotRenew, Cond.code yX7_whyNotRenew cX7_whyNotRenew 2 (some .int), Cond.methodLink RL 36 yX6_overrule, Cond.instanceMethod yX6_overrule, Cond.selects RX6 yX6_overrule yX6_overrule, Cond.code yX6_overrule cX6_overrule 2 (some .int), Cond.instanceMethod yX0_turnCase, Cond.selects RX0 yX0_turnCase yX0_turnCase, Cond.code yX0_turnCase cX0_turnCase 2 (some .int), Cond.methodLink RL 39 yX7_overrule, Cond.instanceMethod yX7_overrule]
def wsL_law_r14 : List Cond := [Cond.selects RX7 yX7_overrule yX7_overrule, Cond.code yX7_overrule cX7_overrule 2 (some .int), Cond.methodLink RX7 119 yX7_overruleIt, Cond.instanceMethod yX7_overruleIt, Cond.selects RX7 yX7_overruleIt yX7_overruleIt, Cond.code yX7_overruleIt cX7_overruleIt 2 (some .int), Cond.methodLink RL 40 yX6_pass, Cond.instanceMethod yX6_pass, Cond.selects RX6 yX6_pass yX6_pass, Cond.code yX6_pass cX6_pass 2 (some .int), Cond.instanceMethod yX0_moveOn, Cond.selects RX0 yX0_moveOn yX0_moveOn, Cond.code yX0_moveOn cX0_moveOn 2 (some .int), Cond.methodLink RL 43 yX7_pass, Cond.instanceMethod yX7_pass, Cond.selects RX7 yX7_pass yX7_pass, Cond.code yX7_pass cX7_pass 3 (some .int), Cond.methodLink RX7 122 yX7_whyNotPass, Cond.instanceMethod yX7_whyNotPass, Cond.selects RX7 yX7_whyNotPass yX7_whyNotPass, Cond.code yX7_whyNotPass cX7_whyNotPass 2 (some .int), Cond.methodLink RL 44 yX6_of, Cond.instanceMethod yX6_of, Cond.selects RX6 yX6_of yX6_of]
def wsL_law_r15 : List Cond := [Cond.code yX6_of cX6_of 4 (some .int), Cond.methodLink RX6 105 yX6_has, Cond.instanceMethod yX0_reasonAgainst, Cond.selects RX0 yX0_reasonAgainst yX0_reasonAgainst, Cond.code yX0_reasonAgainst cX0_reasonAgainst 2 (some .int), Cond.instanceMethod yX0_answersTo, Cond.selects RX0 yX0_answersTo yX0_answersTo, Cond.code yX0_answersTo cX0_answersTo 5 (some .int), Cond.methodLink RX6 115 yX6_lowestOf, Cond.static yX6_lowestOf, Cond.code yX6_lowestOf cX6_lowestOf 2 (some .int), Cond.instanceMethod yX0_depthOf, Cond.selects RX0 yX0_depthOf yX0_depthOf, Cond.code yX0_depthOf cX0_depthOf 4 (some .int), Cond.instanceMethod yX0_daysLeft, Cond.selects RX0 yX0_daysLeft yX0_daysLeft, Cond.code yX0_daysLeft cX0_daysLeft 3 (some .int), Cond.methodLink RL 47 yX7_of, Cond.instanceMethod yX7_of, Cond.selects RX7 yX7_of yX7_of, Cond.code yX7_of cX7_of 3 (some .int), Cond.methodLink RX7 125 yX7_lowestThatStands, Cond.instanceMethod yX7_lowestThatStands, Cond.selects RX7 yX7_lowestThatStands yX7_lowestThatStands]
def wsL_law_r16 : List Cond := [Cond.code yX7_lowestThatStands cX7_lowestThatStands 3 (some .int), Cond.methodLink RX7 128 yX7_answersTo, Cond.instanceMethod yX7_answersTo, Cond.selects RX7 yX7_answersTo yX7_answersTo, Cond.code yX7_answersTo cX7_answersTo 4 (some .int), Cond.methodLink RX7 131 yX7_depth, Cond.instanceMethod yX7_depth, Cond.selects RX7 yX7_depth yX7_depth, Cond.code yX7_depth cX7_depth 4 (some .int), Cond.methodLink RX7 134 yX7_daysYet, Cond.instanceMethod yX7_daysYet, Cond.selects RX7 yX7_daysYet yX7_daysYet, Cond.code yX7_daysYet cX7_daysYet 2 (some .int), Cond.methodLink RL 48 yX6_count, Cond.instanceMethod yX6_count, Cond.selects RX6 yX6_count yX6_count, Cond.code yX6_count cX6_count 2 (some .int), Cond.instanceMethod yX0_claims, Cond.selects RX0 yX0_claims yX0_claims, Cond.code yX0_claims cX0_claims 1 (some .int), Cond.methodLink RX0 89 yX0_answersTo, Cond.methodLink RX6 134 yJ6_bitCount_0f7a4, Cond.instanceMethod yX0_answered, Cond.selects RX0 yX0_answered yX0_answered]
def wsL_law_r17 : List Cond := [Cond.code yX0_answered cX0_answered 1 (some .int), Cond.methodLink RX0 92 yX0_all, Cond.instanceMethod yX0_all, Cond.selects RX0 yX0_all yX0_all, Cond.code yX0_all cX0_all 1 (some .int), Cond.instanceMethod yX0_pagesOf, Cond.selects RX0 yX0_pagesOf yX0_pagesOf, Cond.code yX0_pagesOf cX0_pagesOf 6 (some .int), Cond.methodLink RL 51 yX7_count, Cond.instanceMethod yX7_count, Cond.selects RX7 yX7_count yX7_count, Cond.code yX7_count cX7_count 2 (some .int), Cond.fieldLink RX7 146 "PointAnswersModel" "typed" "I", Cond.methodLink RX7 137 yX7_claims, Cond.instanceMethod yX7_claims, Cond.selects RX7 yX7_claims yX7_claims, Cond.code yX7_claims cX7_claims 3 (some .int), Cond.methodLink RX7 140 yX7_outOnes, Cond.instanceMethod yX7_outOnes, Cond.selects RX7 yX7_outOnes yX7_outOnes, Cond.code yX7_outOnes cX7_outOnes 3 (some .int), Cond.methodLink RX7 143 yX7_answeredOnes, Cond.instanceMethod yX7_answeredOnes, Cond.selects RX7 yX7_answeredOnes yX7_answeredOnes]
def wsL_law_r18 : List Cond := [Cond.code yX7_answeredOnes cX7_answeredOnes 3 (some .int), Cond.methodLink RL 52 yX6_points, Cond.instanceMethod yX6_points, Cond.selects RX6 yX6_points yX6_points, Cond.code yX6_points cX6_points 2 (some .int), Cond.instanceMethod yX0_ofSide, Cond.selects RX0 yX0_ofSide yX0_ofSide, Cond.code yX0_ofSide cX0_ofSide 5 (some .int), Cond.methodLink RL 55 yX7_points, Cond.instanceMethod yX7_points, Cond.selects RX7 yX7_points yX7_points, Cond.code yX7_points cX7_points 2 (some .int), Cond.methodLink RX7 149 yX7_ofSide, Cond.instanceMethod yX7_ofSide, Cond.selects RX7 yX7_ofSide yX7_ofSide, Cond.code yX7_ofSide cX7_ofSide 4 (some .int), Cond.methodLink RL 56 yX6_share, Cond.instanceMethod yX6_share, Cond.selects RX6 yX6_share yX6_share, Cond.code yX6_share cX6_share 3 (some .int), Cond.methodLink RX6 172 yX6_floatBits, Cond.static yX6_floatBits, Cond.code yX6_floatBits cX6_floatBits 9 (some .int), Cond.constantLong RX6 257 (2)]
def wsL_law_r19 : List Cond := [Cond.constantLong RX6 259 (8388608), Cond.methodLink RL 59 yX7_share, Cond.instanceMethod yX7_share, Cond.selects RX7 yX7_share yX7_share, Cond.code yX7_share cX7_share 3 (some .int), Cond.methodLink RX7 154 yX7_bitsOf, Cond.static yX7_bitsOf, Cond.code yX7_bitsOf cX7_bitsOf 3 (some .int), Cond.constantFloat RX7 152 (1258291200), Cond.constant RX7 153 (8388608), Cond.methodLink RL 60 yX6_toFall, Cond.instanceMethod yX6_toFall, Cond.selects RX6 yX6_toFall yX6_toFall, Cond.code yX6_toFall cX6_toFall 2 (some .int), Cond.instanceMethod yX1_weigh, Cond.selects RX1 yX1_weigh yX1_weigh, Cond.code yX1_weigh cX1_weigh 6 none, Cond.instanceMethod yX0_withoutAnswers, Cond.selects RX0 yX0_withoutAnswers yX0_withoutAnswers, Cond.code yX0_withoutAnswers cX0_withoutAnswers 3 (some .int), Cond.methodLink RX1 41 yX1_addToTarget, Cond.instanceMethod yX1_addToTarget, Cond.selects RX1 yX1_addToTarget yX1_addToTarget, Cond.code yX1_addToTarget cX1_addToTarget 4 none]
def wsL_law_r20 : List Cond := [Cond.methodLink RX1 45 Lib.Math.min.name, Cond.static Lib.Math.min.name, Cond.initialized "java/lang/Math", Cond.code Lib.Math.min.name Lib.Math.min.code 2 (some .int), Cond.instanceMethod yX1_answersToFall, Cond.selects RX1 yX1_answersToFall yX1_answersToFall, Cond.code yX1_answersToFall cX1_answersToFall 2 (some .int), Cond.methodLink RX1 51 yX1_reachable, Cond.static yX1_reachable, Cond.code yX1_reachable cX1_reachable 1 (some .int), Cond.methodLink RL 63 yX7_toFall, Cond.instanceMethod yX7_toFall, Cond.selects RX7 yX7_toFall yX7_toFall, Cond.code yX7_toFall cX7_toFall 2 (some .int), Cond.methodLink RX7 158 yX7_layCosts, Cond.instanceMethod yX7_layCosts, Cond.selects RX7 yX7_layCosts yX7_layCosts, Cond.code yX7_layCosts cX7_layCosts 7 none, Cond.methodLink RL 64 yX6_toStand, Cond.instanceMethod yX6_toStand, Cond.selects RX6 yX6_toStand yX6_toStand, Cond.code yX6_toStand cX6_toStand 2 (some .int), Cond.instanceMethod yX1_answersToStand, Cond.selects RX1 yX1_answersToStand yX1_answersToStand]
def wsL_law_r21 : List Cond := [Cond.code yX1_answersToStand cX1_answersToStand 2 (some .int), Cond.methodLink RL 67 yX7_toStand, Cond.instanceMethod yX7_toStand, Cond.selects RX7 yX7_toStand yX7_toStand, Cond.code yX7_toStand cX7_toStand 2 (some .int), Cond.methodLink RL 68 yX6_bestAnswer, Cond.instanceMethod yX6_bestAnswer, Cond.selects RX6 yX6_bestAnswer yX6_bestAnswer, Cond.code yX6_bestAnswer cX6_bestAnswer 9 (some .int), Cond.methodLink RL 71 yX7_bestAnswer, Cond.instanceMethod yX7_bestAnswer, Cond.selects RX7 yX7_bestAnswer yX7_bestAnswer, Cond.code yX7_bestAnswer cX7_bestAnswer 6 (some .int), Cond.methodLink RX7 161 yX7_changesBy, Cond.instanceMethod yX7_changesBy, Cond.selects RX7 yX7_changesBy yX7_changesBy, Cond.code yX7_changesBy cX7_changesBy 3 (some .int), Cond.methodLink RL 72 yX6_changesIn, Cond.instanceMethod yX6_changesIn, Cond.selects RX6 yX6_changesIn yX6_changesIn, Cond.code yX6_changesIn cX6_changesIn 4 (some .int), Cond.methodLink RL 76 yX7_changesIn, Cond.instanceMethod yX7_changesIn, Cond.selects RX7 yX7_changesIn yX7_changesIn]
def wsL_law_r22 : List Cond := [Cond.code yX7_changesIn cX7_changesIn 5 (some .int), Cond.methodLink RL 77 yX6_leastPages, Cond.instanceMethod yX6_leastPages, Cond.selects RX6 yX6_leastPages yX6_leastPages, Cond.code yX6_leastPages cX6_leastPages 3 (some .int), Cond.methodLink RX6 196 Lib.Math.max.name, Cond.static Lib.Math.max.name, Cond.code Lib.Math.max.name Lib.Math.max.code 2 (some .int), Cond.methodLink RL 80 yX7_leastPages, Cond.instanceMethod yX7_leastPages, Cond.selects RX7 yX7_leastPages yX7_leastPages, Cond.code yX7_leastPages cX7_leastPages 5 (some .int), Cond.methodLink RL 83 yX6_put, Cond.instanceMethod yX6_put, Cond.selects RX6 yX6_put yX6_put, Cond.code yX6_put cX6_put 5 (some .int), Cond.static yX3_signsIn, Cond.code yX3_signsIn cX3_signsIn 4 (some .int), Cond.methodLink RX3 19 yX3_signOf, Cond.static yX3_signOf, Cond.code yX3_signOf cX3_signOf 3 (some .char), Cond.constantLong RX3 23 (255), Cond.instanceMethod yX3_append, Cond.selects RX3 yX3_append yX3_append]
def wsL_law_r23 : List Cond := [Cond.code yX3_append cX3_append 2 none, Cond.fieldLink RX3 15 "PointAnswers$Pad" "length" "I", Cond.methodLink RL 87 yX7_put, Cond.instanceMethod yX7_put, Cond.selects RX7 yX7_put yX7_put, Cond.code yX7_put cX7_put 8 (some .int), Cond.constantLong RX7 164 (255), Cond.methodLink RL 88 yX6_wipe, Cond.instanceMethod yX6_wipe, Cond.selects RX6 yX6_wipe yX6_wipe, Cond.code yX6_wipe cX6_wipe 1 (some .int), Cond.instanceMethod yX3_empty, Cond.selects RX3 yX3_empty yX3_empty, Cond.code yX3_empty cX3_empty 2 (some .int), Cond.methodLink RL 91 yX7_wipe, Cond.instanceMethod yX7_wipe, Cond.selects RX7 yX7_wipe yX7_wipe, Cond.code yX7_wipe cX7_wipe 2 (some .int), Cond.methodLink RL 92 yX6_fault, Cond.instanceMethod yX6_fault, Cond.selects RX6 yX6_fault yX6_fault, Cond.code yX6_fault cX6_fault 1 (some .int), Cond.instanceMethod yX5_firstFault, Cond.selects RX5 yX5_firstFault yX5_firstFault]
def wsL_law_r24 : List Cond := [Cond.code yX5_firstFault cX5_firstFault 3 (some .int), Cond.fieldLink RX5 9 "PointAnswers$Reader" "at" "I", Cond.methodLink RX5 15 yX5_rewind, Cond.instanceMethod yX5_rewind, Cond.selects RX5 yX5_rewind yX5_rewind, Cond.code yX5_rewind cX5_rewind 1 none, Cond.methodLink RX5 18 yX5_readOrder, Cond.instanceMethod yX5_readOrder, Cond.selects RX5 yX5_readOrder yX5_readOrder, Cond.code yX5_readOrder cX5_readOrder 2 (some .boolean), Cond.fieldLink RX5 35 "PointAnswers$Reader" "kind" "C", Cond.instanceMethod yX3_signAt, Cond.selects RX3 yX3_signAt yX3_signAt, Cond.code yX3_signAt cX3_signAt 2 (some .char), Cond.methodLink RX5 39 yX5_readDigit, Cond.instanceMethod yX5_readDigit, Cond.selects RX5 yX5_readDigit yX5_readDigit, Cond.code yX5_readDigit cX5_readDigit 4 (some .boolean), Cond.fieldLink RX5 49 "PointAnswers$Reader" "digit" "I", Cond.fieldLink RX5 55 "PointAnswers$Reader" "number" "I", Cond.methodLink RX5 52 yX5_takeDigit, Cond.instanceMethod yX5_takeDigit, Cond.selects RX5 yX5_takeDigit yX5_takeDigit, Cond.code yX5_takeDigit cX5_takeDigit 5 (some .boolean)]
def wsL_law_r25 : List Cond := [Cond.methodLink RX5 43 yX5_readPaper, Cond.instanceMethod yX5_readPaper, Cond.selects RX5 yX5_readPaper yX5_readPaper, Cond.code yX5_readPaper cX5_readPaper 2 (some .boolean), Cond.fieldLink RX5 58 "PointAnswers$Reader" "pages" "I", Cond.methodLink RX5 27 yX5_take, Cond.instanceMethod yX5_take, Cond.selects RX5 yX5_take yX5_take, Cond.code yX5_take cX5_take 3 (some .boolean), Cond.methodLink RX5 61 yX5_readCites, Cond.instanceMethod yX5_readCites, Cond.selects RX5 yX5_readCites yX5_readCites, Cond.code yX5_readCites cX5_readCites 3 (some .boolean), Cond.fieldLink RX5 64 "PointAnswers$Reader" "cases" "I", Cond.methodLink RX5 46 yX5_readNumber, Cond.instanceMethod yX5_readNumber, Cond.selects RX5 yX5_readNumber yX5_readNumber, Cond.code yX5_readNumber cX5_readNumber 2 (some .boolean), Cond.methodLink RL 95 yX7_fault, Cond.instanceMethod yX7_fault, Cond.selects RX7 yX7_fault yX7_fault, Cond.code yX7_fault cX7_fault 1 (some .int), Cond.methodLink RX7 194 yX7_readPad, Cond.instanceMethod yX7_readPad]
def wsL_law_r26 : List Cond := [Cond.selects RX7 yX7_readPad yX7_readPad, Cond.code yX7_readPad cX7_readPad 2 (some .int), Cond.fieldLink RX7 182 "PointAnswersModel" "orderMany" "I", Cond.fieldLink RX7 166 "PointAnswersModel" "spot" "I", Cond.fieldLink RX7 169 "PointAnswersModel" "wrong" "I", Cond.methodLink RX7 191 yX7_readOrder, Cond.instanceMethod yX7_readOrder, Cond.selects RX7 yX7_readOrder yX7_readOrder, Cond.code yX7_readOrder cX7_readOrder 3 none, Cond.methodLink RX7 172 yX7_letter, Cond.instanceMethod yX7_letter, Cond.selects RX7 yX7_letter yX7_letter, Cond.code yX7_letter cX7_letter 1 (some .int), Cond.methodLink RX7 175 yX7_wants, Cond.instanceMethod yX7_wants, Cond.selects RX7 yX7_wants yX7_wants, Cond.code yX7_wants cX7_wants 2 none, Cond.methodLink RX7 179 yX7_digit, Cond.instanceMethod yX7_digit, Cond.selects RX7 yX7_digit yX7_digit, Cond.code yX7_digit cX7_digit 4 (some .int), Cond.methodLink RX7 185 yX7_number, Cond.instanceMethod yX7_number, Cond.selects RX7 yX7_number yX7_number]
def wsL_law_r27 : List Cond := [Cond.code yX7_number cX7_number 3 (some .int), Cond.methodLink RX7 188 yX7_cites, Cond.instanceMethod yX7_cites, Cond.selects RX7 yX7_cites yX7_cites, Cond.code yX7_cites cX7_cites 3 (some .int), Cond.methodLink RL 96 yX6_carryOut, Cond.instanceMethod yX6_carryOut, Cond.selects RX6 yX6_carryOut yX6_carryOut, Cond.code yX6_carryOut cX6_carryOut 2 (some .int), Cond.methodLink RX6 227 yX6_follow, Cond.instanceMethod yX6_follow, Cond.selects RX6 yX6_follow yX6_follow, Cond.code yX6_follow cX6_follow 1 (some .int), Cond.methodLink RL 99 yX7_carryOut, Cond.instanceMethod yX7_carryOut, Cond.selects RX7 yX7_carryOut yX7_carryOut, Cond.code yX7_carryOut cX7_carryOut 2 (some .int), Cond.methodLink RX7 200 yX7_does, Cond.instanceMethod yX7_does, Cond.selects RX7 yX7_does yX7_does, Cond.code yX7_does cX7_does 5 (some .boolean), Cond.methodLink RX7 197 yX7_whyNot, Cond.instanceMethod yX7_whyNot, Cond.selects RX7 yX7_whyNot yX7_whyNot]
def wsL_law_r28 : List Cond := [Cond.code yX7_whyNot cX7_whyNot 5 (some .int), Cond.methodLink RL 100 yX6_undo, Cond.instanceMethod yX6_undo, Cond.selects RX6 yX6_undo yX6_undo, Cond.code yX6_undo cX6_undo 1 (some .int), Cond.instanceMethod yX2_bringBack, Cond.selects RX2 yX2_bringBack yX2_bringBack, Cond.code yX2_bringBack cX2_bringBack 3 (some .int), Cond.methodLink RL 103 yX7_undo, Cond.instanceMethod yX7_undo, Cond.selects RX7 yX7_undo yX7_undo, Cond.code yX7_undo cX7_undo 2 (some .int), Cond.methodLink RL 104 yX6_save, Cond.instanceMethod yX6_save, Cond.selects RX6 yX6_save yX6_save, Cond.code yX6_save cX6_save 3 (some .int), Cond.fieldLink RX6 245 "PointAnswers" "savedSlots" "I", Cond.methodLink RX6 238 yX6_slotRow, Cond.instanceMethod yX6_slotRow, Cond.selects RX6 yX6_slotRow yX6_slotRow, Cond.code yX6_slotRow cX6_slotRow 2 (some (.object "PointAnswers$Bundle")), Cond.methodLink RL 107 yX7_save, Cond.instanceMethod yX7_save, Cond.selects RX7 yX7_save yX7_save]
def wsL_law_r29 : List Cond := [Cond.code yX7_save cX7_save 3 (some .int), Cond.methodLink RL 108 yX6_restore, Cond.instanceMethod yX6_restore, Cond.selects RX6 yX6_restore yX6_restore, Cond.code yX6_restore cX6_restore 3 (some .int), Cond.methodLink RL 111 yX7_restore, Cond.instanceMethod yX7_restore, Cond.selects RX7 yX7_restore yX7_restore, Cond.code yX7_restore cX7_restore 3 (some .int)]
def wsL_law : List Cond := (wsL_law_r1 ++ (wsL_law_r2 ++ (wsL_law_r3 ++ (wsL_law_r4 ++ (wsL_law_r5 ++ (wsL_law_r6 ++ (wsL_law_r7 ++ (wsL_law_r8 ++ (wsL_law_r9 ++ (wsL_law_r10 ++ (wsL_law_r11 ++ (wsL_law_r12 ++ (wsL_law_r13 ++ (wsL_law_r14 ++ (wsL_law_r15 ++ (wsL_law_r16 ++ (wsL_law_r17 ++ (wsL_law_r18 ++ (wsL_law_r19 ++ (wsL_law_r20 ++ (wsL_law_r21 ++ (wsL_law_r22 ++ (wsL_law_r23 ++ (wsL_law_r24 ++ (wsL_law_r25 ++ (wsL_law_r26 ++ (wsL_law_r27 ++ (wsL_law_r28 ++ wsL_law_r29)))))))))))))))))))))))))))) ++ wsX60 ++ wsX70 ++ wsX00 ++ wsX10 ++ wsX30 ++ wsX50 ++ wsX20 ++ wsX40 ++ ([] : List Cond)
set_option maxRecDepth 20000 in
theorem wsL_law_in : ∀ w ∈ wsL_law, w ∈ lw_tbl := fun w h => (goodIn_p wsL_law [106, 109, 114, 121, 186, 200, 216, 245, 644, 283, 287, 291, 295, 299, 303, 307, 311, 315, 715, 703, 718, 711, 319, 323, 326, 330, 334, 722, 726, 729, 733, 737, 338, 342, 741, 745, 749, 753, 757, 346, 350, 354, 358, 362, 366, 370, 374, 378, 381, 385, 388, 761, 765, 769, 773, 777, 781, 785, 789, 793, 796, 395, 399, 800, 804, 403, 407, 808, 812, 411, 415, 816, 820, 419, 426, 430, 433, 437, 441, 824, 828, 832, 836, 840, 445, 449, 456, 460, 466, 844, 848, 852, 856, 470, 474, 860, 864, 478, 481, 868, 871, 487, 491, 496, 502, 505, 509, 512, 877, 881, 516, 520, 885, 524, 889, 893, 530, 897, 536, 539, 901, 543, 546, 549, 555, 905, 559, 563, 910, 567, 571, 575, 579, 583, 587, 591, 595, 599, 603, 607, 914, 918, 922, 926, 930, 934, 938, 942, 611, 617, 946, 950, 954, 622, 626, 696, 630, 634, 700, 639, 707] (by decide +kernel) (by decide +kernel) w h).1
theorem inlX0 : ∀ w ∈ wsX00, w ∈ wsL_law := fun _ h => List.mem_append_left _ (List.mem_append_left _ (List.mem_append_left _ (List.mem_append_left _ (List.mem_append_left _ (List.mem_append_left _ (List.mem_append_right _ h))))))
theorem inX0 : ∀ w ∈ wsX00, w ∈ lw_tbl := fun w h => wsL_law_in w (inlX0 w h)
theorem inlX1 : ∀ w ∈ wsX10, w ∈ wsL_law := fun _ h => List.mem_append_left _ (List.mem_append_left _ (List.mem_append_left _ (List.mem_append_left _ (List.mem_append_left _ (List.mem_append_right _ h)))))
theorem inX1 : ∀ w ∈ wsX10, w ∈ lw_tbl := fun w h => wsL_law_in w (inlX1 w h)
theorem inlX2 : ∀ w ∈ wsX20, w ∈ wsL_law := fun _ h => List.mem_append_left _ (List.mem_append_left _ (List.mem_append_right _ h))
theorem inX2 : ∀ w ∈ wsX20, w ∈ lw_tbl := fun w h => wsL_law_in w (inlX2 w h)
theorem inlX3 : ∀ w ∈ wsX30, w ∈ wsL_law := fun _ h => List.mem_append_left _ (List.mem_append_left _ (List.mem_append_left _ (List.mem_append_left _ (List.mem_append_right _ h))))
theorem inX3 : ∀ w ∈ wsX30, w ∈ lw_tbl := fun w h => wsL_law_in w (inlX3 w h)
theorem inlX4 : ∀ w ∈ wsX40, w ∈ wsL_law := fun _ h => List.mem_append_left _ (List.mem_append_right _ h)
theorem inX4 : ∀ w ∈ wsX40, w ∈ lw_tbl := fun w h => wsL_law_in w (inlX4 w h)
theorem inlX5 : ∀ w ∈ wsX50, w ∈ wsL_law := fun _ h => List.mem_append_left _ (List.mem_append_left _ (List.mem_append_left _ (List.mem_append_right _ h)))
theorem inX5 : ∀ w ∈ wsX50, w ∈ lw_tbl := fun w h => wsL_law_in w (inlX5 w h)
theorem inlX6 : ∀ w ∈ wsX60, w ∈ wsL_law := fun _ h => List.mem_append_left _ (List.mem_append_left _ (List.mem_append_left _ (List.mem_append_left _ (List.mem_append_left _ (List.mem_append_left _ (List.mem_append_left _ (List.mem_append_left _ (List.mem_append_right _ h))))))))
theorem inX6 : ∀ w ∈ wsX60, w ∈ lw_tbl := fun w h => wsL_law_in w (inlX6 w h)
theorem inlX7 : ∀ w ∈ wsX70, w ∈ wsL_law := fun _ h => List.mem_append_left _ (List.mem_append_left _ (List.mem_append_left _ (List.mem_append_left _ (List.mem_append_left _ (List.mem_append_left _ (List.mem_append_left _ (List.mem_append_right _ h)))))))
theorem inX7 : ∀ w ∈ wsX70, w ∈ lw_tbl := fun w h => wsL_law_in w (inlX7 w h)
theorem inJ6 : ∀ w ∈ wsJ60, w ∈ lw_tbl := by decide +kernel
theorem inJ9 : ∀ w ∈ wsJ90, w ∈ lw_tbl := by decide +kernel
set_option maxRecDepth 20000 in
theorem ggX0_init_X4_init : GoodIn wsX0_init wsX4_init := goodIn_r _ [11, 12, 2, 3] (by decide +kernel) (by decide +kernel)
set_option maxRecDepth 20000 in
theorem gX0_init_X4_init_n24 : GoodIn wsX0_init (wsX4_init) := ggX0_init_X4_init
theorem dX0_init_0 : decode cX0_init 0 = .ok (.aload_n 0, 1) := by decide +kernel
theorem dX0_init_1 : decode cX0_init 1 = .ok (.invokespecial 3, 3) := by decide +kernel
theorem dX0_init_4 : decode cX0_init 4 = .ok (.aload_n 0, 1) := by decide +kernel
theorem dX0_init_5 : decode cX0_init 5 = .ok (.bipush 24, 2) := by decide +kernel
theorem dX0_init_7 : decode cX0_init 7 = .ok (.anewarray 9, 3) := by decide +kernel
theorem dX0_init_10 : decode cX0_init 10 = .ok (.putfield 11, 3) := by decide +kernel
theorem dX0_init_13 : decode cX0_init 13 = .ok (.aload_n 0, 1) := by decide +kernel
theorem dX0_init_14 : decode cX0_init 14 = .ok (.bipush 14, 2) := by decide +kernel
theorem dX0_init_16 : decode cX0_init 16 = .ok (.putfield 17, 3) := by decide +kernel
theorem dX0_init_19 : decode cX0_init 19 = .ok (.aload_n 0, 1) := by decide +kernel
theorem dX0_init_20 : decode cX0_init 20 = .ok (.bipush 30, 2) := by decide +kernel
theorem dX0_init_22 : decode cX0_init 22 = .ok (.putfield 21, 3) := by decide +kernel
theorem dX0_init_25 : decode cX0_init 25 = .ok (.iconst 0, 1) := by decide +kernel
theorem dX0_init_26 : decode cX0_init 26 = .ok (.istore_n 1, 1) := by decide +kernel
theorem dX0_init_27 : decode cX0_init 27 = .ok (.iload_n 1, 1) := by decide +kernel
theorem dX0_init_28 : decode cX0_init 28 = .ok (.aload_n 0, 1) := by decide +kernel
theorem dX0_init_29 : decode cX0_init 29 = .ok (.getfield 11, 3) := by decide +kernel
theorem dX0_init_32 : decode cX0_init 32 = .ok (.arraylength, 1) := by decide +kernel
theorem dX0_init_33 : decode cX0_init 33 = .ok (.if_icmp .ge 22, 3) := by decide +kernel
theorem dX0_init_36 : decode cX0_init 36 = .ok (.aload_n 0, 1) := by decide +kernel
theorem dX0_init_37 : decode cX0_init 37 = .ok (.getfield 11, 3) := by decide +kernel
theorem dX0_init_40 : decode cX0_init 40 = .ok (.iload_n 1, 1) := by decide +kernel
theorem dX0_init_41 : decode cX0_init 41 = .ok (.new 9, 3) := by decide +kernel
theorem dX0_init_44 : decode cX0_init 44 = .ok (.dup, 1) := by decide +kernel
theorem dX0_init_45 : decode cX0_init 45 = .ok (.invokespecial 24, 3) := by decide +kernel
theorem dX0_init_48 : decode cX0_init 48 = .ok (.aastore, 1) := by decide +kernel
theorem dX0_init_49 : decode cX0_init 49 = .ok (.iinc 1 1, 3) := by decide +kernel
theorem dX0_init_52 : decode cX0_init 52 = .ok (.goto (-25), 3) := by decide +kernel
theorem dX0_init_55 : decode cX0_init 55 = .ok (.return_, 1) := by decide +kernel
set_option maxRecDepth 20000 in
theorem ggX0_become_X0_find : GoodIn wsX0_become wsX0_find := goodIn_r _ [11, 1, 6, 23, 24, 25, 26, 27, 28] (by decide +kernel) (by decide +kernel)
set_option maxRecDepth 20000 in
theorem gX0_become_X0_find : GoodIn wsX0_become (wsV RX0 34 RX0 yX0_find wsX0_find) := goodIn_app (goodIn_of _ (by decide +kernel)) ggX0_become_X0_find
set_option maxRecDepth 20000 in
theorem ggX0_become_X4_become : GoodIn wsX0_become wsX4_become := goodIn_r _ [15, 16, 17, 18, 19, 20, 21, 22, 29, 30, 31, 32, 33, 34, 35] (by decide +kernel) (by decide +kernel)
set_option maxRecDepth 20000 in
theorem gX0_become_X4_become_n38 : GoodIn wsX0_become (wsX4_become) := ggX0_become_X4_become
theorem dX0_become_0 : decode cX0_become 0 = .ok (.aload_n 0, 1) := by decide +kernel
theorem dX0_become_1 : decode cX0_become 1 = .ok (.aload_n 1, 1) := by decide +kernel
theorem dX0_become_2 : decode cX0_become 2 = .ok (.getfield 25, 3) := by decide +kernel
theorem dX0_become_5 : decode cX0_become 5 = .ok (.putfield 25, 3) := by decide +kernel
theorem dX0_become_8 : decode cX0_become 8 = .ok (.aload_n 0, 1) := by decide +kernel
theorem dX0_become_9 : decode cX0_become 9 = .ok (.aload_n 1, 1) := by decide +kernel
theorem dX0_become_10 : decode cX0_become 10 = .ok (.getfield 28, 3) := by decide +kernel
theorem dX0_become_13 : decode cX0_become 13 = .ok (.putfield 28, 3) := by decide +kernel
theorem dX0_become_16 : decode cX0_become 16 = .ok (.aload_n 0, 1) := by decide +kernel
theorem dX0_become_17 : decode cX0_become 17 = .ok (.aload_n 1, 1) := by decide +kernel
theorem dX0_become_18 : decode cX0_become 18 = .ok (.getfield 31, 3) := by decide +kernel
theorem dX0_become_21 : decode cX0_become 21 = .ok (.putfield 31, 3) := by decide +kernel
theorem dX0_become_24 : decode cX0_become 24 = .ok (.aload_n 0, 1) := by decide +kernel
theorem dX0_become_25 : decode cX0_become 25 = .ok (.aload_n 1, 1) := by decide +kernel
theorem dX0_become_26 : decode cX0_become 26 = .ok (.getfield 17, 3) := by decide +kernel
theorem dX0_become_29 : decode cX0_become 29 = .ok (.putfield 17, 3) := by decide +kernel
theorem dX0_become_32 : decode cX0_become 32 = .ok (.aload_n 0, 1) := by decide +kernel
theorem dX0_become_33 : decode cX0_become 33 = .ok (.aload_n 1, 1) := by decide +kernel
theorem dX0_become_34 : decode cX0_become 34 = .ok (.getfield 21, 3) := by decide +kernel
theorem dX0_become_37 : decode cX0_become 37 = .ok (.putfield 21, 3) := by decide +kernel
theorem dX0_become_40 : decode cX0_become 40 = .ok (.iconst 0, 1) := by decide +kernel
theorem dX0_become_41 : decode cX0_become 41 = .ok (.istore_n 2, 1) := by decide +kernel
theorem dX0_become_42 : decode cX0_become 42 = .ok (.iload_n 2, 1) := by decide +kernel
theorem dX0_become_43 : decode cX0_become 43 = .ok (.aload_n 0, 1) := by decide +kernel
theorem dX0_become_44 : decode cX0_become 44 = .ok (.getfield 11, 3) := by decide +kernel
theorem dX0_become_47 : decode cX0_become 47 = .ok (.arraylength, 1) := by decide +kernel
theorem dX0_become_48 : decode cX0_become 48 = .ok (.if_icmp .ge 46, 3) := by decide +kernel
theorem dX0_become_51 : decode cX0_become 51 = .ok (.iload_n 2, 1) := by decide +kernel
theorem dX0_become_52 : decode cX0_become 52 = .ok (.aload_n 0, 1) := by decide +kernel
theorem dX0_become_53 : decode cX0_become 53 = .ok (.getfield 25, 3) := by decide +kernel
theorem dX0_become_56 : decode cX0_become 56 = .ok (.if_icmp .ge 38, 3) := by decide +kernel
theorem dX0_become_59 : decode cX0_become 59 = .ok (.aload_n 0, 1) := by decide +kernel
theorem dX0_become_60 : decode cX0_become 60 = .ok (.getfield 11, 3) := by decide +kernel
theorem dX0_become_63 : decode cX0_become 63 = .ok (.iload_n 2, 1) := by decide +kernel
theorem dX0_become_64 : decode cX0_become 64 = .ok (.aaload, 1) := by decide +kernel
theorem dX0_become_65 : decode cX0_become 65 = .ok (.astore_n 3, 1) := by decide +kernel
theorem dX0_become_66 : decode cX0_become 66 = .ok (.aload_n 1, 1) := by decide +kernel
theorem dX0_become_67 : decode cX0_become 67 = .ok (.iload_n 2, 1) := by decide +kernel
theorem dX0_become_68 : decode cX0_become 68 = .ok (.invokevirtual 34, 3) := by decide +kernel
theorem dX0_become_71 : decode cX0_become 71 = .ok (.astore 4, 2) := by decide +kernel
theorem dX0_become_73 : decode cX0_become 73 = .ok (.aload_n 3, 1) := by decide +kernel
theorem dX0_become_74 : decode cX0_become 74 = .ok (.ifnull 14, 3) := by decide +kernel
theorem dX0_become_77 : decode cX0_become 77 = .ok (.aload 4, 2) := by decide +kernel
theorem dX0_become_79 : decode cX0_become 79 = .ok (.ifnull 9, 3) := by decide +kernel
theorem dX0_become_82 : decode cX0_become 82 = .ok (.aload_n 3, 1) := by decide +kernel
theorem dX0_become_83 : decode cX0_become 83 = .ok (.aload 4, 2) := by decide +kernel
theorem dX0_become_85 : decode cX0_become 85 = .ok (.invokevirtual 38, 3) := by decide +kernel
theorem dX0_become_88 : decode cX0_become 88 = .ok (.iinc 2 1, 3) := by decide +kernel
theorem dX0_become_91 : decode cX0_become 91 = .ok (.goto (-49), 3) := by decide +kernel
theorem dX0_become_94 : decode cX0_become 94 = .ok (.return_, 1) := by decide +kernel
theorem dX0_find_0 : decode cX0_find 0 = .ok (.iload_n 1, 1) := by decide +kernel
theorem dX0_find_1 : decode cX0_find 1 = .ok (.ifCond .lt 29, 3) := by decide +kernel
theorem dX0_find_4 : decode cX0_find 4 = .ok (.iload_n 1, 1) := by decide +kernel
theorem dX0_find_5 : decode cX0_find 5 = .ok (.aload_n 0, 1) := by decide +kernel
theorem dX0_find_6 : decode cX0_find 6 = .ok (.getfield 25, 3) := by decide +kernel
theorem dX0_find_9 : decode cX0_find 9 = .ok (.if_icmp .ge 21, 3) := by decide +kernel
theorem dX0_find_12 : decode cX0_find 12 = .ok (.iload_n 1, 1) := by decide +kernel
theorem dX0_find_13 : decode cX0_find 13 = .ok (.aload_n 0, 1) := by decide +kernel
theorem dX0_find_14 : decode cX0_find 14 = .ok (.getfield 11, 3) := by decide +kernel
theorem dX0_find_17 : decode cX0_find 17 = .ok (.arraylength, 1) := by decide +kernel
theorem dX0_find_18 : decode cX0_find 18 = .ok (.if_icmp .ge 12, 3) := by decide +kernel
theorem dX0_find_21 : decode cX0_find 21 = .ok (.aload_n 0, 1) := by decide +kernel
theorem dX0_find_22 : decode cX0_find 22 = .ok (.getfield 11, 3) := by decide +kernel
theorem dX0_find_25 : decode cX0_find 25 = .ok (.iload_n 1, 1) := by decide +kernel
theorem dX0_find_26 : decode cX0_find 26 = .ok (.aaload, 1) := by decide +kernel
theorem dX0_find_27 : decode cX0_find 27 = .ok (.goto 4, 3) := by decide +kernel
theorem dX0_find_30 : decode cX0_find 30 = .ok (.aconst_null, 1) := by decide +kernel
theorem dX0_find_31 : decode cX0_find 31 = .ok (.areturn, 1) := by decide +kernel
theorem dX0_freeRow_0 : decode cX0_freeRow 0 = .ok (.aload_n 0, 1) := by decide +kernel
theorem dX0_freeRow_1 : decode cX0_freeRow 1 = .ok (.getfield 25, 3) := by decide +kernel
theorem dX0_freeRow_4 : decode cX0_freeRow 4 = .ok (.ifCond .lt 27, 3) := by decide +kernel
theorem dX0_freeRow_7 : decode cX0_freeRow 7 = .ok (.aload_n 0, 1) := by decide +kernel
theorem dX0_freeRow_8 : decode cX0_freeRow 8 = .ok (.getfield 25, 3) := by decide +kernel
theorem dX0_freeRow_11 : decode cX0_freeRow 11 = .ok (.aload_n 0, 1) := by decide +kernel
theorem dX0_freeRow_12 : decode cX0_freeRow 12 = .ok (.getfield 11, 3) := by decide +kernel
theorem dX0_freeRow_15 : decode cX0_freeRow 15 = .ok (.arraylength, 1) := by decide +kernel
theorem dX0_freeRow_16 : decode cX0_freeRow 16 = .ok (.if_icmp .ge 15, 3) := by decide +kernel
theorem dX0_freeRow_19 : decode cX0_freeRow 19 = .ok (.aload_n 0, 1) := by decide +kernel
theorem dX0_freeRow_20 : decode cX0_freeRow 20 = .ok (.getfield 11, 3) := by decide +kernel
theorem dX0_freeRow_23 : decode cX0_freeRow 23 = .ok (.aload_n 0, 1) := by decide +kernel
theorem dX0_freeRow_24 : decode cX0_freeRow 24 = .ok (.getfield 25, 3) := by decide +kernel
theorem dX0_freeRow_27 : decode cX0_freeRow 27 = .ok (.aaload, 1) := by decide +kernel
theorem dX0_freeRow_28 : decode cX0_freeRow 28 = .ok (.goto 4, 3) := by decide +kernel
theorem dX0_freeRow_31 : decode cX0_freeRow 31 = .ok (.aconst_null, 1) := by decide +kernel
theorem dX0_freeRow_32 : decode cX0_freeRow 32 = .ok (.areturn, 1) := by decide +kernel
theorem dX0_adjust_0 : decode cX0_adjust 0 = .ok (.bipush (-2), 2) := by decide +kernel
theorem dX0_adjust_2 : decode cX0_adjust 2 = .ok (.istore_n 3, 1) := by decide +kernel
theorem dX0_adjust_3 : decode cX0_adjust 3 = .ok (.iload_n 1, 1) := by decide +kernel
theorem dX0_adjust_4 : decode cX0_adjust 4 = .ok (.ifCond .ne 24, 3) := by decide +kernel
theorem dX0_adjust_7 : decode cX0_adjust 7 = .ok (.iload_n 2, 1) := by decide +kernel
theorem dX0_adjust_8 : decode cX0_adjust 8 = .ok (.iconst 1, 1) := by decide +kernel
theorem dX0_adjust_9 : decode cX0_adjust 9 = .ok (.if_icmp .lt 19, 3) := by decide +kernel
theorem dX0_adjust_12 : decode cX0_adjust 12 = .ok (.iload_n 2, 1) := by decide +kernel
theorem dX0_adjust_13 : decode cX0_adjust 13 = .ok (.bipush 60, 2) := by decide +kernel
theorem dX0_adjust_15 : decode cX0_adjust 15 = .ok (.if_icmp .gt 13, 3) := by decide +kernel
theorem dX0_adjust_18 : decode cX0_adjust 18 = .ok (.aload_n 0, 1) := by decide +kernel
theorem dX0_adjust_19 : decode cX0_adjust 19 = .ok (.getfield 17, 3) := by decide +kernel
theorem dX0_adjust_22 : decode cX0_adjust 22 = .ok (.istore_n 3, 1) := by decide +kernel
theorem dX0_adjust_23 : decode cX0_adjust 23 = .ok (.aload_n 0, 1) := by decide +kernel
theorem dX0_adjust_24 : decode cX0_adjust 24 = .ok (.iload_n 2, 1) := by decide +kernel
theorem dX0_adjust_25 : decode cX0_adjust 25 = .ok (.putfield 17, 3) := by decide +kernel
theorem dX0_adjust_28 : decode cX0_adjust 28 = .ok (.iload_n 1, 1) := by decide +kernel
theorem dX0_adjust_29 : decode cX0_adjust 29 = .ok (.iconst 1, 1) := by decide +kernel
theorem dX0_adjust_30 : decode cX0_adjust 30 = .ok (.if_icmp .ne 24, 3) := by decide +kernel
theorem dX0_adjust_33 : decode cX0_adjust 33 = .ok (.iload_n 2, 1) := by decide +kernel
theorem dX0_adjust_34 : decode cX0_adjust 34 = .ok (.iconst 1, 1) := by decide +kernel
theorem dX0_adjust_35 : decode cX0_adjust 35 = .ok (.if_icmp .lt 19, 3) := by decide +kernel
theorem dX0_adjust_38 : decode cX0_adjust 38 = .ok (.iload_n 2, 1) := by decide +kernel
theorem dX0_adjust_39 : decode cX0_adjust 39 = .ok (.bipush 99, 2) := by decide +kernel
theorem dX0_adjust_41 : decode cX0_adjust 41 = .ok (.if_icmp .gt 13, 3) := by decide +kernel
theorem dX0_adjust_44 : decode cX0_adjust 44 = .ok (.aload_n 0, 1) := by decide +kernel
theorem dX0_adjust_45 : decode cX0_adjust 45 = .ok (.getfield 21, 3) := by decide +kernel
theorem dX0_adjust_48 : decode cX0_adjust 48 = .ok (.istore_n 3, 1) := by decide +kernel
theorem dX0_adjust_49 : decode cX0_adjust 49 = .ok (.aload_n 0, 1) := by decide +kernel
theorem dX0_adjust_50 : decode cX0_adjust 50 = .ok (.iload_n 2, 1) := by decide +kernel
theorem dX0_adjust_51 : decode cX0_adjust 51 = .ok (.putfield 21, 3) := by decide +kernel
theorem dX0_adjust_54 : decode cX0_adjust 54 = .ok (.iload_n 3, 1) := by decide +kernel
theorem dX0_adjust_55 : decode cX0_adjust 55 = .ok (.ireturn, 1) := by decide +kernel
set_option maxRecDepth 20000 in
theorem ggX0_fileClaim_X0_canBeFiled : GoodIn wsX0_fileClaim wsX0_canBeFiled := goodIn_r _ [4] (by decide +kernel) (by decide +kernel)
set_option maxRecDepth 20000 in
theorem gX0_fileClaim_X0_canBeFiled : GoodIn wsX0_fileClaim (va_wsS RX0 42 yX0_canBeFiled wsX0_canBeFiled) := goodIn_app (goodIn_of _ (by decide +kernel)) ggX0_fileClaim_X0_canBeFiled
set_option maxRecDepth 20000 in
theorem ggX0_fileClaim_X0_file : GoodIn wsX0_fileClaim wsX0_file := goodIn_r _ [8, 9, 10, 11, 12, 13, 3, 14, 15, 16, 17, 18, 19, 20, 21, 22, 23, 24, 25, 26, 27, 28] (by decide +kernel) (by decide +kernel)
set_option maxRecDepth 20000 in
theorem gX0_fileClaim_X0_file : GoodIn wsX0_fileClaim (wsV RX0 46 RX0 yX0_file wsX0_file) := goodIn_app (goodIn_of _ (by decide +kernel)) ggX0_fileClaim_X0_file
theorem dX0_fileClaim_0 : decode cX0_fileClaim 0 = .ok (.iload_n 1, 1) := by decide +kernel
theorem dX0_fileClaim_1 : decode cX0_fileClaim 1 = .ok (.ifCond .lt 16, 3) := by decide +kernel
theorem dX0_fileClaim_4 : decode cX0_fileClaim 4 = .ok (.iload_n 1, 1) := by decide +kernel
theorem dX0_fileClaim_5 : decode cX0_fileClaim 5 = .ok (.iconst 1, 1) := by decide +kernel
theorem dX0_fileClaim_6 : decode cX0_fileClaim 6 = .ok (.if_icmp .gt 11, 3) := by decide +kernel
theorem dX0_fileClaim_9 : decode cX0_fileClaim 9 = .ok (.iload_n 2, 1) := by decide +kernel
theorem dX0_fileClaim_10 : decode cX0_fileClaim 10 = .ok (.iload_n 3, 1) := by decide +kernel
theorem dX0_fileClaim_11 : decode cX0_fileClaim 11 = .ok (.invokestatic 42, 3) := by decide +kernel
theorem dX0_fileClaim_14 : decode cX0_fileClaim 14 = .ok (.ifCond .ne 6, 3) := by decide +kernel
theorem dX0_fileClaim_17 : decode cX0_fileClaim 17 = .ok (.bipush (-2), 2) := by decide +kernel
theorem dX0_fileClaim_19 : decode cX0_fileClaim 19 = .ok (.ireturn, 1) := by decide +kernel
theorem dX0_fileClaim_20 : decode cX0_fileClaim 20 = .ok (.aload_n 0, 1) := by decide +kernel
theorem dX0_fileClaim_21 : decode cX0_fileClaim 21 = .ok (.iload_n 1, 1) := by decide +kernel
theorem dX0_fileClaim_22 : decode cX0_fileClaim 22 = .ok (.iload_n 2, 1) := by decide +kernel
theorem dX0_fileClaim_23 : decode cX0_fileClaim 23 = .ok (.iload_n 3, 1) := by decide +kernel
theorem dX0_fileClaim_24 : decode cX0_fileClaim 24 = .ok (.bipush (-6), 2) := by decide +kernel
theorem dX0_fileClaim_26 : decode cX0_fileClaim 26 = .ok (.invokevirtual 46, 3) := by decide +kernel
theorem dX0_fileClaim_29 : decode cX0_fileClaim 29 = .ok (.ireturn, 1) := by decide +kernel
set_option maxRecDepth 20000 in
theorem ggX0_fileAnswer_X0_find : GoodIn wsX0_fileAnswer wsX0_find := goodIn_r _ [5, 6, 7, 27, 28, 29, 30, 31, 32] (by decide +kernel) (by decide +kernel)
set_option maxRecDepth 20000 in
theorem gX0_fileAnswer_X0_find : GoodIn wsX0_fileAnswer (wsV RX0 34 RX0 yX0_find wsX0_find) := goodIn_app (goodIn_of _ (by decide +kernel)) ggX0_fileAnswer_X0_find
set_option maxRecDepth 20000 in
theorem ggX0_fileAnswer_X0_canBeFiled : GoodIn wsX0_fileAnswer wsX0_canBeFiled := goodIn_r _ [10] (by decide +kernel) (by decide +kernel)
set_option maxRecDepth 20000 in
theorem gX0_fileAnswer_X0_canBeFiled : GoodIn wsX0_fileAnswer (va_wsS RX0 42 yX0_canBeFiled wsX0_canBeFiled) := goodIn_app (goodIn_of _ (by decide +kernel)) ggX0_fileAnswer_X0_canBeFiled
set_option maxRecDepth 20000 in
theorem ggX0_fileAnswer_X0_freeRow : GoodIn wsX0_fileAnswer wsX0_freeRow := goodIn_r _ [14, 6, 7, 27, 28, 29, 30, 31, 32] (by decide +kernel) (by decide +kernel)
set_option maxRecDepth 20000 in
theorem gX0_fileAnswer_X0_freeRow : GoodIn wsX0_fileAnswer (wsV RX0 50 RX0 yX0_freeRow wsX0_freeRow) := goodIn_app (goodIn_of _ (by decide +kernel)) ggX0_fileAnswer_X0_freeRow
set_option maxRecDepth 20000 in
theorem ggX0_fileAnswer_X0_file : GoodIn wsX0_fileAnswer wsX0_file := goodIn_r _ [18, 19, 6, 11, 12, 13, 4, 14, 7, 20, 21, 22, 23, 24, 25, 26, 27, 28, 29, 30, 31, 32] (by decide +kernel) (by decide +kernel)
set_option maxRecDepth 20000 in
theorem gX0_fileAnswer_X0_file : GoodIn wsX0_fileAnswer (wsV RX0 46 RX0 yX0_file wsX0_file) := goodIn_app (goodIn_of _ (by decide +kernel)) ggX0_fileAnswer_X0_file
theorem dX0_fileAnswer_0 : decode cX0_fileAnswer 0 = .ok (.aload_n 0, 1) := by decide +kernel
theorem dX0_fileAnswer_1 : decode cX0_fileAnswer 1 = .ok (.iload_n 1, 1) := by decide +kernel
theorem dX0_fileAnswer_2 : decode cX0_fileAnswer 2 = .ok (.invokevirtual 34, 3) := by decide +kernel
theorem dX0_fileAnswer_5 : decode cX0_fileAnswer 5 = .ok (.astore 4, 2) := by decide +kernel
theorem dX0_fileAnswer_7 : decode cX0_fileAnswer 7 = .ok (.aload 4, 2) := by decide +kernel
theorem dX0_fileAnswer_9 : decode cX0_fileAnswer 9 = .ok (.ifnonnull 5, 3) := by decide +kernel
theorem dX0_fileAnswer_12 : decode cX0_fileAnswer 12 = .ok (.iconst (-1), 1) := by decide +kernel
theorem dX0_fileAnswer_13 : decode cX0_fileAnswer 13 = .ok (.ireturn, 1) := by decide +kernel
theorem dX0_fileAnswer_14 : decode cX0_fileAnswer 14 = .ok (.iload_n 2, 1) := by decide +kernel
theorem dX0_fileAnswer_15 : decode cX0_fileAnswer 15 = .ok (.iload_n 3, 1) := by decide +kernel
theorem dX0_fileAnswer_16 : decode cX0_fileAnswer 16 = .ok (.invokestatic 42, 3) := by decide +kernel
theorem dX0_fileAnswer_19 : decode cX0_fileAnswer 19 = .ok (.ifCond .ne 6, 3) := by decide +kernel
theorem dX0_fileAnswer_22 : decode cX0_fileAnswer 22 = .ok (.bipush (-2), 2) := by decide +kernel
theorem dX0_fileAnswer_24 : decode cX0_fileAnswer 24 = .ok (.ireturn, 1) := by decide +kernel
theorem dX0_fileAnswer_25 : decode cX0_fileAnswer 25 = .ok (.aload_n 0, 1) := by decide +kernel
theorem dX0_fileAnswer_26 : decode cX0_fileAnswer 26 = .ok (.invokevirtual 50, 3) := by decide +kernel
theorem dX0_fileAnswer_29 : decode cX0_fileAnswer 29 = .ok (.ifnonnull 6, 3) := by decide +kernel
theorem dX0_fileAnswer_32 : decode cX0_fileAnswer 32 = .ok (.bipush (-4), 2) := by decide +kernel
theorem dX0_fileAnswer_34 : decode cX0_fileAnswer 34 = .ok (.ireturn, 1) := by decide +kernel
theorem dX0_fileAnswer_35 : decode cX0_fileAnswer 35 = .ok (.aload 4, 2) := by decide +kernel
theorem dX0_fileAnswer_37 : decode cX0_fileAnswer 37 = .ok (.getfield 54, 3) := by decide +kernel
theorem dX0_fileAnswer_40 : decode cX0_fileAnswer 40 = .ok (.ifCond .eq 6, 3) := by decide +kernel
theorem dX0_fileAnswer_43 : decode cX0_fileAnswer 43 = .ok (.bipush (-5), 2) := by decide +kernel
theorem dX0_fileAnswer_45 : decode cX0_fileAnswer 45 = .ok (.ireturn, 1) := by decide +kernel
theorem dX0_fileAnswer_46 : decode cX0_fileAnswer 46 = .ok (.aload_n 0, 1) := by decide +kernel
theorem dX0_fileAnswer_47 : decode cX0_fileAnswer 47 = .ok (.iconst 1, 1) := by decide +kernel
theorem dX0_fileAnswer_48 : decode cX0_fileAnswer 48 = .ok (.aload 4, 2) := by decide +kernel
theorem dX0_fileAnswer_50 : decode cX0_fileAnswer 50 = .ok (.getfield 58, 3) := by decide +kernel
theorem dX0_fileAnswer_53 : decode cX0_fileAnswer 53 = .ok (.isub, 1) := by decide +kernel
theorem dX0_fileAnswer_54 : decode cX0_fileAnswer 54 = .ok (.iload_n 2, 1) := by decide +kernel
theorem dX0_fileAnswer_55 : decode cX0_fileAnswer 55 = .ok (.iload_n 3, 1) := by decide +kernel
theorem dX0_fileAnswer_56 : decode cX0_fileAnswer 56 = .ok (.iload_n 1, 1) := by decide +kernel
theorem dX0_fileAnswer_57 : decode cX0_fileAnswer 57 = .ok (.invokevirtual 46, 3) := by decide +kernel
theorem dX0_fileAnswer_60 : decode cX0_fileAnswer 60 = .ok (.ireturn, 1) := by decide +kernel
theorem dX0_canBeFiled_0 : decode cX0_canBeFiled 0 = .ok (.iload_n 0, 1) := by decide +kernel
theorem dX0_canBeFiled_1 : decode cX0_canBeFiled 1 = .ok (.iconst 1, 1) := by decide +kernel
theorem dX0_canBeFiled_2 : decode cX0_canBeFiled 2 = .ok (.if_icmp .lt 24, 3) := by decide +kernel
theorem dX0_canBeFiled_5 : decode cX0_canBeFiled 5 = .ok (.iload_n 0, 1) := by decide +kernel
theorem dX0_canBeFiled_6 : decode cX0_canBeFiled 6 = .ok (.bipush 9, 2) := by decide +kernel
theorem dX0_canBeFiled_8 : decode cX0_canBeFiled 8 = .ok (.if_icmp .gt 18, 3) := by decide +kernel
theorem dX0_canBeFiled_11 : decode cX0_canBeFiled 11 = .ok (.iload_n 1, 1) := by decide +kernel
theorem dX0_canBeFiled_12 : decode cX0_canBeFiled 12 = .ok (.ifCond .lt 14, 3) := by decide +kernel
theorem dX0_canBeFiled_15 : decode cX0_canBeFiled 15 = .ok (.iload_n 1, 1) := by decide +kernel
theorem dX0_canBeFiled_16 : decode cX0_canBeFiled 16 = .ok (.sipush 1023, 3) := by decide +kernel
theorem dX0_canBeFiled_19 : decode cX0_canBeFiled 19 = .ok (.if_icmp .gt 7, 3) := by decide +kernel
theorem dX0_canBeFiled_22 : decode cX0_canBeFiled 22 = .ok (.iconst 1, 1) := by decide +kernel
theorem dX0_canBeFiled_23 : decode cX0_canBeFiled 23 = .ok (.goto 4, 3) := by decide +kernel
theorem dX0_canBeFiled_26 : decode cX0_canBeFiled 26 = .ok (.iconst 0, 1) := by decide +kernel
theorem dX0_canBeFiled_27 : decode cX0_canBeFiled 27 = .ok (.ireturn, 1) := by decide +kernel
set_option maxRecDepth 20000 in
theorem ggX0_file_X0_freeRow : GoodIn wsX0_file wsX0_freeRow := goodIn_r _ [7, 2, 8, 16, 17, 18, 19, 20, 21] (by decide +kernel) (by decide +kernel)
set_option maxRecDepth 20000 in
theorem gX0_file_X0_freeRow : GoodIn wsX0_file (wsV RX0 50 RX0 yX0_freeRow wsX0_freeRow) := goodIn_app (goodIn_of _ (by decide +kernel)) ggX0_file_X0_freeRow
theorem dX0_file_0 : decode cX0_file 0 = .ok (.aload_n 0, 1) := by decide +kernel
theorem dX0_file_1 : decode cX0_file 1 = .ok (.invokevirtual 50, 3) := by decide +kernel
theorem dX0_file_4 : decode cX0_file 4 = .ok (.astore 5, 2) := by decide +kernel
theorem dX0_file_6 : decode cX0_file 6 = .ok (.aload 5, 2) := by decide +kernel
theorem dX0_file_8 : decode cX0_file 8 = .ok (.ifnonnull 6, 3) := by decide +kernel
theorem dX0_file_11 : decode cX0_file 11 = .ok (.bipush (-4), 2) := by decide +kernel
theorem dX0_file_13 : decode cX0_file 13 = .ok (.ireturn, 1) := by decide +kernel
theorem dX0_file_14 : decode cX0_file 14 = .ok (.aload 5, 2) := by decide +kernel
theorem dX0_file_16 : decode cX0_file 16 = .ok (.iload_n 1, 1) := by decide +kernel
theorem dX0_file_17 : decode cX0_file 17 = .ok (.putfield 58, 3) := by decide +kernel
theorem dX0_file_20 : decode cX0_file 20 = .ok (.aload 5, 2) := by decide +kernel
theorem dX0_file_22 : decode cX0_file 22 = .ok (.iload_n 2, 1) := by decide +kernel
theorem dX0_file_23 : decode cX0_file 23 = .ok (.putfield 61, 3) := by decide +kernel
theorem dX0_file_26 : decode cX0_file 26 = .ok (.aload 5, 2) := by decide +kernel
theorem dX0_file_28 : decode cX0_file 28 = .ok (.iload_n 3, 1) := by decide +kernel
theorem dX0_file_29 : decode cX0_file 29 = .ok (.putfield 64, 3) := by decide +kernel
theorem dX0_file_32 : decode cX0_file 32 = .ok (.aload 5, 2) := by decide +kernel
theorem dX0_file_34 : decode cX0_file 34 = .ok (.iload 4, 2) := by decide +kernel
theorem dX0_file_36 : decode cX0_file 36 = .ok (.putfield 67, 3) := by decide +kernel
theorem dX0_file_39 : decode cX0_file 39 = .ok (.aload 5, 2) := by decide +kernel
theorem dX0_file_41 : decode cX0_file 41 = .ok (.aload_n 0, 1) := by decide +kernel
theorem dX0_file_42 : decode cX0_file 42 = .ok (.getfield 28, 3) := by decide +kernel
theorem dX0_file_45 : decode cX0_file 45 = .ok (.putfield 70, 3) := by decide +kernel
theorem dX0_file_48 : decode cX0_file 48 = .ok (.aload 5, 2) := by decide +kernel
theorem dX0_file_50 : decode cX0_file 50 = .ok (.aload_n 0, 1) := by decide +kernel
theorem dX0_file_51 : decode cX0_file 51 = .ok (.getfield 28, 3) := by decide +kernel
theorem dX0_file_54 : decode cX0_file 54 = .ok (.putfield 73, 3) := by decide +kernel
theorem dX0_file_57 : decode cX0_file 57 = .ok (.aload 5, 2) := by decide +kernel
theorem dX0_file_59 : decode cX0_file 59 = .ok (.iconst 0, 1) := by decide +kernel
theorem dX0_file_60 : decode cX0_file 60 = .ok (.putfield 54, 3) := by decide +kernel
theorem dX0_file_63 : decode cX0_file 63 = .ok (.aload_n 0, 1) := by decide +kernel
theorem dX0_file_64 : decode cX0_file 64 = .ok (.dup, 1) := by decide +kernel
theorem dX0_file_65 : decode cX0_file 65 = .ok (.getfield 25, 3) := by decide +kernel
theorem dX0_file_68 : decode cX0_file 68 = .ok (.iconst 1, 1) := by decide +kernel
theorem dX0_file_69 : decode cX0_file 69 = .ok (.iadd, 1) := by decide +kernel
theorem dX0_file_70 : decode cX0_file 70 = .ok (.putfield 25, 3) := by decide +kernel
theorem dX0_file_73 : decode cX0_file 73 = .ok (.aload_n 0, 1) := by decide +kernel
theorem dX0_file_74 : decode cX0_file 74 = .ok (.getfield 25, 3) := by decide +kernel
theorem dX0_file_77 : decode cX0_file 77 = .ok (.iconst 1, 1) := by decide +kernel
theorem dX0_file_78 : decode cX0_file 78 = .ok (.isub, 1) := by decide +kernel
theorem dX0_file_79 : decode cX0_file 79 = .ok (.ireturn, 1) := by decide +kernel
set_option maxRecDepth 20000 in
theorem ggX0_takeBack_X0_find : GoodIn wsX0_takeBack wsX0_find := goodIn_r _ [5, 6, 7, 61, 62, 63, 64, 65, 66] (by decide +kernel) (by decide +kernel)
set_option maxRecDepth 20000 in
theorem gX0_takeBack_X0_find : GoodIn wsX0_takeBack (wsV RX0 34 RX0 yX0_find wsX0_find) := goodIn_app (goodIn_of _ (by decide +kernel)) ggX0_takeBack_X0_find
set_option maxRecDepth 20000 in
theorem ggX0_takeBack_X0_standing : GoodIn wsX0_takeBack wsX0_standing := goodIn_r _ [11, 12, 13, 14, 4, 15, 16, 17, 18, 19, 20, 6, 1, 2, 3, 5, 7, 21, 22, 23, 24, 25, 26, 27, 28, 29, 30, 31, 32, 33, 34, 35, 36, 37, 38, 39, 40, 41, 42, 43, 44, 45, 46, 61, 62, 63, 64, 65, 66, 54, 55, 56, 57, 58, 59, 60] (by decide +kernel) (by decide +kernel)
set_option maxRecDepth 20000 in
theorem gX0_takeBack_X0_standing : GoodIn wsX0_takeBack (wsV RX0 76 RX0 yX0_standing wsX0_standing) := goodIn_app (goodIn_of _ (by decide +kernel)) ggX0_takeBack_X0_standing
set_option maxRecDepth 20000 in
theorem ggX0_takeBack_J6_bitCount_0f7a4 : GoodIn wsX0_takeBack wsJ6_bitCount_0f7a4 := goodIn_r _ [50, 51, 52, 53] (by decide +kernel) (by decide +kernel)
set_option maxRecDepth 20000 in
theorem gX0_takeBack_J6_bitCount_0f7a4 : GoodIn wsX0_takeBack (va_wsS RX0 80 yJ6_bitCount_0f7a4 wsJ6_bitCount_0f7a4) := goodIn_app (goodIn_of _ (by decide +kernel)) ggX0_takeBack_J6_bitCount_0f7a4
theorem dX0_takeBack_0 : decode cX0_takeBack 0 = .ok (.aload_n 0, 1) := by decide +kernel
theorem dX0_takeBack_1 : decode cX0_takeBack 1 = .ok (.iload_n 1, 1) := by decide +kernel
theorem dX0_takeBack_2 : decode cX0_takeBack 2 = .ok (.invokevirtual 34, 3) := by decide +kernel
theorem dX0_takeBack_5 : decode cX0_takeBack 5 = .ok (.astore_n 2, 1) := by decide +kernel
theorem dX0_takeBack_6 : decode cX0_takeBack 6 = .ok (.aload_n 2, 1) := by decide +kernel
theorem dX0_takeBack_7 : decode cX0_takeBack 7 = .ok (.ifnonnull 5, 3) := by decide +kernel
theorem dX0_takeBack_10 : decode cX0_takeBack 10 = .ok (.iconst (-1), 1) := by decide +kernel
theorem dX0_takeBack_11 : decode cX0_takeBack 11 = .ok (.ireturn, 1) := by decide +kernel
theorem dX0_takeBack_12 : decode cX0_takeBack 12 = .ok (.aload_n 2, 1) := by decide +kernel
theorem dX0_takeBack_13 : decode cX0_takeBack 13 = .ok (.getfield 54, 3) := by decide +kernel
theorem dX0_takeBack_16 : decode cX0_takeBack 16 = .ok (.ifCond .eq 6, 3) := by decide +kernel
theorem dX0_takeBack_19 : decode cX0_takeBack 19 = .ok (.bipush (-5), 2) := by decide +kernel
theorem dX0_takeBack_21 : decode cX0_takeBack 21 = .ok (.ireturn, 1) := by decide +kernel
theorem dX0_takeBack_22 : decode cX0_takeBack 22 = .ok (.aload_n 2, 1) := by decide +kernel
theorem dX0_takeBack_23 : decode cX0_takeBack 23 = .ok (.iconst 1, 1) := by decide +kernel
theorem dX0_takeBack_24 : decode cX0_takeBack 24 = .ok (.putfield 54, 3) := by decide +kernel
theorem dX0_takeBack_27 : decode cX0_takeBack 27 = .ok (.aload_n 0, 1) := by decide +kernel
theorem dX0_takeBack_28 : decode cX0_takeBack 28 = .ok (.invokevirtual 76, 3) := by decide +kernel
theorem dX0_takeBack_31 : decode cX0_takeBack 31 = .ok (.invokestatic 80, 3) := by decide +kernel
theorem dX0_takeBack_34 : decode cX0_takeBack 34 = .ok (.ireturn, 1) := by decide +kernel
set_option maxRecDepth 20000 in
theorem ggX0_prolong_X0_find : GoodIn wsX0_prolong wsX0_find := goodIn_r _ [6, 7, 8, 16, 17, 18, 19, 20, 21] (by decide +kernel) (by decide +kernel)
set_option maxRecDepth 20000 in
theorem gX0_prolong_X0_find : GoodIn wsX0_prolong (wsV RX0 34 RX0 yX0_find wsX0_find) := goodIn_app (goodIn_of _ (by decide +kernel)) ggX0_prolong_X0_find
theorem dX0_prolong_0 : decode cX0_prolong 0 = .ok (.aload_n 0, 1) := by decide +kernel
theorem dX0_prolong_1 : decode cX0_prolong 1 = .ok (.iload_n 1, 1) := by decide +kernel
theorem dX0_prolong_2 : decode cX0_prolong 2 = .ok (.invokevirtual 34, 3) := by decide +kernel
theorem dX0_prolong_5 : decode cX0_prolong 5 = .ok (.astore_n 2, 1) := by decide +kernel
theorem dX0_prolong_6 : decode cX0_prolong 6 = .ok (.aload_n 2, 1) := by decide +kernel
theorem dX0_prolong_7 : decode cX0_prolong 7 = .ok (.ifnonnull 5, 3) := by decide +kernel
theorem dX0_prolong_10 : decode cX0_prolong 10 = .ok (.iconst (-1), 1) := by decide +kernel
theorem dX0_prolong_11 : decode cX0_prolong 11 = .ok (.ireturn, 1) := by decide +kernel
theorem dX0_prolong_12 : decode cX0_prolong 12 = .ok (.aload_n 2, 1) := by decide +kernel
theorem dX0_prolong_13 : decode cX0_prolong 13 = .ok (.getfield 67, 3) := by decide +kernel
theorem dX0_prolong_16 : decode cX0_prolong 16 = .ok (.bipush (-6), 2) := by decide +kernel
theorem dX0_prolong_18 : decode cX0_prolong 18 = .ok (.if_icmp .eq 10, 3) := by decide +kernel
theorem dX0_prolong_21 : decode cX0_prolong 21 = .ok (.aload_n 2, 1) := by decide +kernel
theorem dX0_prolong_22 : decode cX0_prolong 22 = .ok (.getfield 54, 3) := by decide +kernel
theorem dX0_prolong_25 : decode cX0_prolong 25 = .ok (.ifCond .eq 6, 3) := by decide +kernel
theorem dX0_prolong_28 : decode cX0_prolong 28 = .ok (.bipush (-5), 2) := by decide +kernel
theorem dX0_prolong_30 : decode cX0_prolong 30 = .ok (.ireturn, 1) := by decide +kernel
theorem dX0_prolong_31 : decode cX0_prolong 31 = .ok (.aload_n 0, 1) := by decide +kernel
theorem dX0_prolong_32 : decode cX0_prolong 32 = .ok (.getfield 28, 3) := by decide +kernel
theorem dX0_prolong_35 : decode cX0_prolong 35 = .ok (.aload_n 2, 1) := by decide +kernel
theorem dX0_prolong_36 : decode cX0_prolong 36 = .ok (.getfield 73, 3) := by decide +kernel
theorem dX0_prolong_39 : decode cX0_prolong 39 = .ok (.isub, 1) := by decide +kernel
theorem dX0_prolong_40 : decode cX0_prolong 40 = .ok (.istore_n 3, 1) := by decide +kernel
theorem dX0_prolong_41 : decode cX0_prolong 41 = .ok (.aload_n 2, 1) := by decide +kernel
theorem dX0_prolong_42 : decode cX0_prolong 42 = .ok (.aload_n 0, 1) := by decide +kernel
theorem dX0_prolong_43 : decode cX0_prolong 43 = .ok (.getfield 28, 3) := by decide +kernel
theorem dX0_prolong_46 : decode cX0_prolong 46 = .ok (.putfield 73, 3) := by decide +kernel
theorem dX0_prolong_49 : decode cX0_prolong 49 = .ok (.iload_n 3, 1) := by decide +kernel
theorem dX0_prolong_50 : decode cX0_prolong 50 = .ok (.ireturn, 1) := by decide +kernel
set_option maxRecDepth 20000 in
theorem ggX0_turnCase_X6_has : GoodIn wsX0_turnCase wsX6_has := goodIn_r _ [4] (by decide +kernel) (by decide +kernel)
set_option maxRecDepth 20000 in
theorem gX0_turnCase_X6_has_n86 : GoodIn wsX0_turnCase (wsX6_has) := ggX0_turnCase_X6_has
theorem dX0_turnCase_0 : decode cX0_turnCase 0 = .ok (.iload_n 1, 1) := by decide +kernel
theorem dX0_turnCase_1 : decode cX0_turnCase 1 = .ok (.ifCond .lt 9, 3) := by decide +kernel
theorem dX0_turnCase_4 : decode cX0_turnCase 4 = .ok (.iload_n 1, 1) := by decide +kernel
theorem dX0_turnCase_5 : decode cX0_turnCase 5 = .ok (.bipush 10, 2) := by decide +kernel
theorem dX0_turnCase_7 : decode cX0_turnCase 7 = .ok (.if_icmp .lt 5, 3) := by decide +kernel
theorem dX0_turnCase_10 : decode cX0_turnCase 10 = .ok (.iconst (-1), 1) := by decide +kernel
theorem dX0_turnCase_11 : decode cX0_turnCase 11 = .ok (.ireturn, 1) := by decide +kernel
theorem dX0_turnCase_12 : decode cX0_turnCase 12 = .ok (.aload_n 0, 1) := by decide +kernel
theorem dX0_turnCase_13 : decode cX0_turnCase 13 = .ok (.dup, 1) := by decide +kernel
theorem dX0_turnCase_14 : decode cX0_turnCase 14 = .ok (.getfield 31, 3) := by decide +kernel
theorem dX0_turnCase_17 : decode cX0_turnCase 17 = .ok (.iconst 1, 1) := by decide +kernel
theorem dX0_turnCase_18 : decode cX0_turnCase 18 = .ok (.iload_n 1, 1) := by decide +kernel
theorem dX0_turnCase_19 : decode cX0_turnCase 19 = .ok (.ishl, 1) := by decide +kernel
theorem dX0_turnCase_20 : decode cX0_turnCase 20 = .ok (.ixor, 1) := by decide +kernel
theorem dX0_turnCase_21 : decode cX0_turnCase 21 = .ok (.putfield 31, 3) := by decide +kernel
theorem dX0_turnCase_24 : decode cX0_turnCase 24 = .ok (.aload_n 0, 1) := by decide +kernel
theorem dX0_turnCase_25 : decode cX0_turnCase 25 = .ok (.getfield 31, 3) := by decide +kernel
theorem dX0_turnCase_28 : decode cX0_turnCase 28 = .ok (.iload_n 1, 1) := by decide +kernel
theorem dX0_turnCase_29 : decode cX0_turnCase 29 = .ok (.invokestatic 86, 3) := by decide +kernel
theorem dX0_turnCase_32 : decode cX0_turnCase 32 = .ok (.ifCond .eq 7, 3) := by decide +kernel
theorem dX0_turnCase_35 : decode cX0_turnCase 35 = .ok (.iconst 1, 1) := by decide +kernel
theorem dX0_turnCase_36 : decode cX0_turnCase 36 = .ok (.goto 4, 3) := by decide +kernel
theorem dX0_turnCase_39 : decode cX0_turnCase 39 = .ok (.iconst 0, 1) := by decide +kernel
theorem dX0_turnCase_40 : decode cX0_turnCase 40 = .ok (.ireturn, 1) := by decide +kernel
set_option maxRecDepth 20000 in
theorem ggX0_moveOn_X0_standing : GoodIn wsX0_moveOn wsX0_standing := goodIn_r _ [6, 7, 8, 9, 5, 10, 1, 11, 12, 13, 14, 15, 16, 17, 18, 19, 20, 21, 22, 23, 24, 25, 26, 27, 28, 29, 30, 31, 32, 33, 34, 35, 36, 37, 38, 39, 40, 41, 42, 43, 44, 45, 46, 54, 55, 56, 57, 58, 59, 60, 61, 62, 63, 64, 65, 66] (by decide +kernel) (by decide +kernel)
set_option maxRecDepth 20000 in
theorem gX0_moveOn_X0_standing : GoodIn wsX0_moveOn (wsV RX0 76 RX0 yX0_standing wsX0_standing) := goodIn_app (goodIn_of _ (by decide +kernel)) ggX0_moveOn_X0_standing
set_option maxRecDepth 20000 in
theorem ggX0_moveOn_J6_bitCount_0f7a4 : GoodIn wsX0_moveOn wsJ6_bitCount_0f7a4 := goodIn_r _ [50, 51, 52, 53] (by decide +kernel) (by decide +kernel)
set_option maxRecDepth 20000 in
theorem gX0_moveOn_J6_bitCount_0f7a4 : GoodIn wsX0_moveOn (va_wsS RX0 80 yJ6_bitCount_0f7a4 wsJ6_bitCount_0f7a4) := goodIn_app (goodIn_of _ (by decide +kernel)) ggX0_moveOn_J6_bitCount_0f7a4
theorem dX0_moveOn_0 : decode cX0_moveOn 0 = .ok (.iload_n 1, 1) := by decide +kernel
theorem dX0_moveOn_1 : decode cX0_moveOn 1 = .ok (.iconst 1, 1) := by decide +kernel
theorem dX0_moveOn_2 : decode cX0_moveOn 2 = .ok (.if_icmp .lt 9, 3) := by decide +kernel
theorem dX0_moveOn_5 : decode cX0_moveOn 5 = .ok (.iload_n 1, 1) := by decide +kernel
theorem dX0_moveOn_6 : decode cX0_moveOn 6 = .ok (.bipush 99, 2) := by decide +kernel
theorem dX0_moveOn_8 : decode cX0_moveOn 8 = .ok (.if_icmp .le 6, 3) := by decide +kernel
theorem dX0_moveOn_11 : decode cX0_moveOn 11 = .ok (.bipush (-2), 2) := by decide +kernel
theorem dX0_moveOn_13 : decode cX0_moveOn 13 = .ok (.ireturn, 1) := by decide +kernel
theorem dX0_moveOn_14 : decode cX0_moveOn 14 = .ok (.aload_n 0, 1) := by decide +kernel
theorem dX0_moveOn_15 : decode cX0_moveOn 15 = .ok (.getfield 28, 3) := by decide +kernel
theorem dX0_moveOn_18 : decode cX0_moveOn 18 = .ok (.iload_n 1, 1) := by decide +kernel
theorem dX0_moveOn_19 : decode cX0_moveOn 19 = .ok (.iadd, 1) := by decide +kernel
theorem dX0_moveOn_20 : decode cX0_moveOn 20 = .ok (.sipush 999, 3) := by decide +kernel
theorem dX0_moveOn_23 : decode cX0_moveOn 23 = .ok (.if_icmp .le 6, 3) := by decide +kernel
theorem dX0_moveOn_26 : decode cX0_moveOn 26 = .ok (.bipush (-5), 2) := by decide +kernel
theorem dX0_moveOn_28 : decode cX0_moveOn 28 = .ok (.ireturn, 1) := by decide +kernel
theorem dX0_moveOn_29 : decode cX0_moveOn 29 = .ok (.aload_n 0, 1) := by decide +kernel
theorem dX0_moveOn_30 : decode cX0_moveOn 30 = .ok (.dup, 1) := by decide +kernel
theorem dX0_moveOn_31 : decode cX0_moveOn 31 = .ok (.getfield 28, 3) := by decide +kernel
theorem dX0_moveOn_34 : decode cX0_moveOn 34 = .ok (.iload_n 1, 1) := by decide +kernel
theorem dX0_moveOn_35 : decode cX0_moveOn 35 = .ok (.iadd, 1) := by decide +kernel
theorem dX0_moveOn_36 : decode cX0_moveOn 36 = .ok (.putfield 28, 3) := by decide +kernel
theorem dX0_moveOn_39 : decode cX0_moveOn 39 = .ok (.aload_n 0, 1) := by decide +kernel
theorem dX0_moveOn_40 : decode cX0_moveOn 40 = .ok (.invokevirtual 76, 3) := by decide +kernel
theorem dX0_moveOn_43 : decode cX0_moveOn 43 = .ok (.invokestatic 80, 3) := by decide +kernel
theorem dX0_moveOn_46 : decode cX0_moveOn 46 = .ok (.ireturn, 1) := by decide +kernel
theorem dX0_all_0 : decode cX0_all 0 = .ok (.iconst 1, 1) := by decide +kernel
theorem dX0_all_1 : decode cX0_all 1 = .ok (.aload_n 0, 1) := by decide +kernel
theorem dX0_all_2 : decode cX0_all 2 = .ok (.getfield 25, 3) := by decide +kernel
theorem dX0_all_5 : decode cX0_all 5 = .ok (.ishl, 1) := by decide +kernel
theorem dX0_all_6 : decode cX0_all 6 = .ok (.iconst 1, 1) := by decide +kernel
theorem dX0_all_7 : decode cX0_all 7 = .ok (.isub, 1) := by decide +kernel
theorem dX0_all_8 : decode cX0_all 8 = .ok (.ireturn, 1) := by decide +kernel
set_option maxRecDepth 20000 in
theorem ggX0_claims_X0_answersTo : GoodIn wsX0_claims wsX0_answersTo := goodIn_r _ [5, 6, 7, 8, 9, 4, 10, 11, 12, 13, 14, 15, 16, 17, 18, 19, 20, 21, 22, 23, 24] (by decide +kernel) (by decide +kernel)
set_option maxRecDepth 20000 in
theorem gX0_claims_X0_answersTo : GoodIn wsX0_claims (wsV RX0 89 RX0 yX0_answersTo wsX0_answersTo) := goodIn_app (goodIn_of _ (by decide +kernel)) ggX0_claims_X0_answersTo
theorem dX0_claims_0 : decode cX0_claims 0 = .ok (.aload_n 0, 1) := by decide +kernel
theorem dX0_claims_1 : decode cX0_claims 1 = .ok (.bipush (-6), 2) := by decide +kernel
theorem dX0_claims_3 : decode cX0_claims 3 = .ok (.invokevirtual 89, 3) := by decide +kernel
theorem dX0_claims_6 : decode cX0_claims 6 = .ok (.ireturn, 1) := by decide +kernel
set_option maxRecDepth 20000 in
theorem ggX0_answersTo_X0_find : GoodIn wsX0_answersTo wsX0_find := goodIn_r _ [6, 1, 7, 8, 9, 10, 11, 12, 13] (by decide +kernel) (by decide +kernel)
set_option maxRecDepth 20000 in
theorem gX0_answersTo_X0_find : GoodIn wsX0_answersTo (wsV RX0 34 RX0 yX0_find wsX0_find) := goodIn_app (goodIn_of _ (by decide +kernel)) ggX0_answersTo_X0_find
theorem dX0_answersTo_0 : decode cX0_answersTo 0 = .ok (.iconst 0, 1) := by decide +kernel
theorem dX0_answersTo_1 : decode cX0_answersTo 1 = .ok (.istore_n 2, 1) := by decide +kernel
theorem dX0_answersTo_2 : decode cX0_answersTo 2 = .ok (.iconst 0, 1) := by decide +kernel
theorem dX0_answersTo_3 : decode cX0_answersTo 3 = .ok (.istore_n 3, 1) := by decide +kernel
theorem dX0_answersTo_4 : decode cX0_answersTo 4 = .ok (.iload_n 3, 1) := by decide +kernel
theorem dX0_answersTo_5 : decode cX0_answersTo 5 = .ok (.aload_n 0, 1) := by decide +kernel
theorem dX0_answersTo_6 : decode cX0_answersTo 6 = .ok (.getfield 25, 3) := by decide +kernel
theorem dX0_answersTo_9 : decode cX0_answersTo 9 = .ok (.if_icmp .ge 36, 3) := by decide +kernel
theorem dX0_answersTo_12 : decode cX0_answersTo 12 = .ok (.aload_n 0, 1) := by decide +kernel
theorem dX0_answersTo_13 : decode cX0_answersTo 13 = .ok (.iload_n 3, 1) := by decide +kernel
theorem dX0_answersTo_14 : decode cX0_answersTo 14 = .ok (.invokevirtual 34, 3) := by decide +kernel
theorem dX0_answersTo_17 : decode cX0_answersTo 17 = .ok (.astore 4, 2) := by decide +kernel
theorem dX0_answersTo_19 : decode cX0_answersTo 19 = .ok (.aload 4, 2) := by decide +kernel
theorem dX0_answersTo_21 : decode cX0_answersTo 21 = .ok (.ifnull 18, 3) := by decide +kernel
theorem dX0_answersTo_24 : decode cX0_answersTo 24 = .ok (.aload 4, 2) := by decide +kernel
theorem dX0_answersTo_26 : decode cX0_answersTo 26 = .ok (.getfield 67, 3) := by decide +kernel
theorem dX0_answersTo_29 : decode cX0_answersTo 29 = .ok (.iload_n 1, 1) := by decide +kernel
theorem dX0_answersTo_30 : decode cX0_answersTo 30 = .ok (.if_icmp .ne 9, 3) := by decide +kernel
theorem dX0_answersTo_33 : decode cX0_answersTo 33 = .ok (.iload_n 2, 1) := by decide +kernel
theorem dX0_answersTo_34 : decode cX0_answersTo 34 = .ok (.iconst 1, 1) := by decide +kernel
theorem dX0_answersTo_35 : decode cX0_answersTo 35 = .ok (.iload_n 3, 1) := by decide +kernel
theorem dX0_answersTo_36 : decode cX0_answersTo 36 = .ok (.ishl, 1) := by decide +kernel
theorem dX0_answersTo_37 : decode cX0_answersTo 37 = .ok (.ior, 1) := by decide +kernel
theorem dX0_answersTo_38 : decode cX0_answersTo 38 = .ok (.istore_n 2, 1) := by decide +kernel
theorem dX0_answersTo_39 : decode cX0_answersTo 39 = .ok (.iinc 3 1, 3) := by decide +kernel
theorem dX0_answersTo_42 : decode cX0_answersTo 42 = .ok (.goto (-38), 3) := by decide +kernel
theorem dX0_answersTo_45 : decode cX0_answersTo 45 = .ok (.iload_n 2, 1) := by decide +kernel
theorem dX0_answersTo_46 : decode cX0_answersTo 46 = .ok (.ireturn, 1) := by decide +kernel
set_option maxRecDepth 20000 in
theorem ggX0_withoutAnswers_X0_all : GoodIn wsX0_withoutAnswers wsX0_all := goodIn_r _ [6, 1, 16, 17, 18, 19, 20, 21] (by decide +kernel) (by decide +kernel)
set_option maxRecDepth 20000 in
theorem gX0_withoutAnswers_X0_all : GoodIn wsX0_withoutAnswers (wsV RX0 92 RX0 yX0_all wsX0_all) := goodIn_app (goodIn_of _ (by decide +kernel)) ggX0_withoutAnswers_X0_all
set_option maxRecDepth 20000 in
theorem ggX0_withoutAnswers_X0_targetOf : GoodIn wsX0_withoutAnswers wsX0_targetOf := goodIn_r _ [10, 11, 12, 13, 5, 14, 1, 15, 22, 23, 24, 25, 26, 27, 28, 16, 17, 18, 19, 20, 21] (by decide +kernel) (by decide +kernel)
set_option maxRecDepth 20000 in
theorem gX0_withoutAnswers_X0_targetOf : GoodIn wsX0_withoutAnswers (wsV RX0 95 RX0 yX0_targetOf wsX0_targetOf) := goodIn_app (goodIn_of _ (by decide +kernel)) ggX0_withoutAnswers_X0_targetOf
theorem dX0_withoutAnswers_0 : decode cX0_withoutAnswers 0 = .ok (.aload_n 0, 1) := by decide +kernel
theorem dX0_withoutAnswers_1 : decode cX0_withoutAnswers 1 = .ok (.invokevirtual 92, 3) := by decide +kernel
theorem dX0_withoutAnswers_4 : decode cX0_withoutAnswers 4 = .ok (.istore_n 1, 1) := by decide +kernel
theorem dX0_withoutAnswers_5 : decode cX0_withoutAnswers 5 = .ok (.iconst 0, 1) := by decide +kernel
theorem dX0_withoutAnswers_6 : decode cX0_withoutAnswers 6 = .ok (.istore_n 2, 1) := by decide +kernel
theorem dX0_withoutAnswers_7 : decode cX0_withoutAnswers 7 = .ok (.iload_n 2, 1) := by decide +kernel
theorem dX0_withoutAnswers_8 : decode cX0_withoutAnswers 8 = .ok (.aload_n 0, 1) := by decide +kernel
theorem dX0_withoutAnswers_9 : decode cX0_withoutAnswers 9 = .ok (.getfield 25, 3) := by decide +kernel
theorem dX0_withoutAnswers_12 : decode cX0_withoutAnswers 12 = .ok (.if_icmp .ge 19, 3) := by decide +kernel
theorem dX0_withoutAnswers_15 : decode cX0_withoutAnswers 15 = .ok (.iload_n 1, 1) := by decide +kernel
theorem dX0_withoutAnswers_16 : decode cX0_withoutAnswers 16 = .ok (.aload_n 0, 1) := by decide +kernel
theorem dX0_withoutAnswers_17 : decode cX0_withoutAnswers 17 = .ok (.iload_n 2, 1) := by decide +kernel
theorem dX0_withoutAnswers_18 : decode cX0_withoutAnswers 18 = .ok (.invokevirtual 95, 3) := by decide +kernel
theorem dX0_withoutAnswers_21 : decode cX0_withoutAnswers 21 = .ok (.iconst (-1), 1) := by decide +kernel
theorem dX0_withoutAnswers_22 : decode cX0_withoutAnswers 22 = .ok (.ixor, 1) := by decide +kernel
theorem dX0_withoutAnswers_23 : decode cX0_withoutAnswers 23 = .ok (.iand, 1) := by decide +kernel
theorem dX0_withoutAnswers_24 : decode cX0_withoutAnswers 24 = .ok (.istore_n 1, 1) := by decide +kernel
theorem dX0_withoutAnswers_25 : decode cX0_withoutAnswers 25 = .ok (.iinc 2 1, 3) := by decide +kernel
theorem dX0_withoutAnswers_28 : decode cX0_withoutAnswers 28 = .ok (.goto (-21), 3) := by decide +kernel
theorem dX0_withoutAnswers_31 : decode cX0_withoutAnswers 31 = .ok (.iload_n 1, 1) := by decide +kernel
theorem dX0_withoutAnswers_32 : decode cX0_withoutAnswers 32 = .ok (.ireturn, 1) := by decide +kernel
set_option maxRecDepth 20000 in
theorem ggX0_targetOf_X0_find : GoodIn wsX0_targetOf wsX0_find := goodIn_r _ [5, 6, 7, 15, 16, 17, 18, 19, 20] (by decide +kernel) (by decide +kernel)
set_option maxRecDepth 20000 in
theorem gX0_targetOf_X0_find : GoodIn wsX0_targetOf (wsV RX0 34 RX0 yX0_find wsX0_find) := goodIn_app (goodIn_of _ (by decide +kernel)) ggX0_targetOf_X0_find
theorem dX0_targetOf_0 : decode cX0_targetOf 0 = .ok (.aload_n 0, 1) := by decide +kernel
theorem dX0_targetOf_1 : decode cX0_targetOf 1 = .ok (.iload_n 1, 1) := by decide +kernel
theorem dX0_targetOf_2 : decode cX0_targetOf 2 = .ok (.invokevirtual 34, 3) := by decide +kernel
theorem dX0_targetOf_5 : decode cX0_targetOf 5 = .ok (.astore_n 2, 1) := by decide +kernel
theorem dX0_targetOf_6 : decode cX0_targetOf 6 = .ok (.aload_n 2, 1) := by decide +kernel
theorem dX0_targetOf_7 : decode cX0_targetOf 7 = .ok (.ifnull 12, 3) := by decide +kernel
theorem dX0_targetOf_10 : decode cX0_targetOf 10 = .ok (.aload_n 2, 1) := by decide +kernel
theorem dX0_targetOf_11 : decode cX0_targetOf 11 = .ok (.getfield 67, 3) := by decide +kernel
theorem dX0_targetOf_14 : decode cX0_targetOf 14 = .ok (.bipush (-6), 2) := by decide +kernel
theorem dX0_targetOf_16 : decode cX0_targetOf 16 = .ok (.if_icmp .ne 7, 3) := by decide +kernel
theorem dX0_targetOf_19 : decode cX0_targetOf 19 = .ok (.iconst 0, 1) := by decide +kernel
theorem dX0_targetOf_20 : decode cX0_targetOf 20 = .ok (.goto 9, 3) := by decide +kernel
theorem dX0_targetOf_23 : decode cX0_targetOf 23 = .ok (.iconst 1, 1) := by decide +kernel
theorem dX0_targetOf_24 : decode cX0_targetOf 24 = .ok (.aload_n 2, 1) := by decide +kernel
theorem dX0_targetOf_25 : decode cX0_targetOf 25 = .ok (.getfield 67, 3) := by decide +kernel
theorem dX0_targetOf_28 : decode cX0_targetOf 28 = .ok (.ishl, 1) := by decide +kernel
theorem dX0_targetOf_29 : decode cX0_targetOf 29 = .ok (.ireturn, 1) := by decide +kernel
set_option maxRecDepth 20000 in
theorem ggX0_ofSide_X0_find : GoodIn wsX0_ofSide wsX0_find := goodIn_r _ [6, 1, 7, 8, 9, 10, 11, 12, 13] (by decide +kernel) (by decide +kernel)
set_option maxRecDepth 20000 in
theorem gX0_ofSide_X0_find : GoodIn wsX0_ofSide (wsV RX0 34 RX0 yX0_find wsX0_find) := goodIn_app (goodIn_of _ (by decide +kernel)) ggX0_ofSide_X0_find
theorem dX0_ofSide_0 : decode cX0_ofSide 0 = .ok (.iconst 0, 1) := by decide +kernel
theorem dX0_ofSide_1 : decode cX0_ofSide 1 = .ok (.istore_n 2, 1) := by decide +kernel
theorem dX0_ofSide_2 : decode cX0_ofSide 2 = .ok (.iconst 0, 1) := by decide +kernel
theorem dX0_ofSide_3 : decode cX0_ofSide 3 = .ok (.istore_n 3, 1) := by decide +kernel
theorem dX0_ofSide_4 : decode cX0_ofSide 4 = .ok (.iload_n 3, 1) := by decide +kernel
theorem dX0_ofSide_5 : decode cX0_ofSide 5 = .ok (.aload_n 0, 1) := by decide +kernel
theorem dX0_ofSide_6 : decode cX0_ofSide 6 = .ok (.getfield 25, 3) := by decide +kernel
theorem dX0_ofSide_9 : decode cX0_ofSide 9 = .ok (.if_icmp .ge 36, 3) := by decide +kernel
theorem dX0_ofSide_12 : decode cX0_ofSide 12 = .ok (.aload_n 0, 1) := by decide +kernel
theorem dX0_ofSide_13 : decode cX0_ofSide 13 = .ok (.iload_n 3, 1) := by decide +kernel
theorem dX0_ofSide_14 : decode cX0_ofSide 14 = .ok (.invokevirtual 34, 3) := by decide +kernel
theorem dX0_ofSide_17 : decode cX0_ofSide 17 = .ok (.astore 4, 2) := by decide +kernel
theorem dX0_ofSide_19 : decode cX0_ofSide 19 = .ok (.aload 4, 2) := by decide +kernel
theorem dX0_ofSide_21 : decode cX0_ofSide 21 = .ok (.ifnull 18, 3) := by decide +kernel
theorem dX0_ofSide_24 : decode cX0_ofSide 24 = .ok (.aload 4, 2) := by decide +kernel
theorem dX0_ofSide_26 : decode cX0_ofSide 26 = .ok (.getfield 58, 3) := by decide +kernel
theorem dX0_ofSide_29 : decode cX0_ofSide 29 = .ok (.iload_n 1, 1) := by decide +kernel
theorem dX0_ofSide_30 : decode cX0_ofSide 30 = .ok (.if_icmp .ne 9, 3) := by decide +kernel
theorem dX0_ofSide_33 : decode cX0_ofSide 33 = .ok (.iload_n 2, 1) := by decide +kernel
theorem dX0_ofSide_34 : decode cX0_ofSide 34 = .ok (.iconst 1, 1) := by decide +kernel
theorem dX0_ofSide_35 : decode cX0_ofSide 35 = .ok (.iload_n 3, 1) := by decide +kernel
theorem dX0_ofSide_36 : decode cX0_ofSide 36 = .ok (.ishl, 1) := by decide +kernel
theorem dX0_ofSide_37 : decode cX0_ofSide 37 = .ok (.ior, 1) := by decide +kernel
theorem dX0_ofSide_38 : decode cX0_ofSide 38 = .ok (.istore_n 2, 1) := by decide +kernel
theorem dX0_ofSide_39 : decode cX0_ofSide 39 = .ok (.iinc 3 1, 3) := by decide +kernel
theorem dX0_ofSide_42 : decode cX0_ofSide 42 = .ok (.goto (-38), 3) := by decide +kernel
theorem dX0_ofSide_45 : decode cX0_ofSide 45 = .ok (.iload_n 2, 1) := by decide +kernel
theorem dX0_ofSide_46 : decode cX0_ofSide 46 = .ok (.ireturn, 1) := by decide +kernel
set_option maxRecDepth 20000 in
theorem ggX0_withdrawn_X0_find : GoodIn wsX0_withdrawn wsX0_find := goodIn_r _ [6, 1, 7, 8, 9, 10, 11, 12, 13] (by decide +kernel) (by decide +kernel)
set_option maxRecDepth 20000 in
theorem gX0_withdrawn_X0_find : GoodIn wsX0_withdrawn (wsV RX0 34 RX0 yX0_find wsX0_find) := goodIn_app (goodIn_of _ (by decide +kernel)) ggX0_withdrawn_X0_find
theorem dX0_withdrawn_0 : decode cX0_withdrawn 0 = .ok (.iconst 0, 1) := by decide +kernel
theorem dX0_withdrawn_1 : decode cX0_withdrawn 1 = .ok (.istore_n 1, 1) := by decide +kernel
theorem dX0_withdrawn_2 : decode cX0_withdrawn 2 = .ok (.iconst 0, 1) := by decide +kernel
theorem dX0_withdrawn_3 : decode cX0_withdrawn 3 = .ok (.istore_n 2, 1) := by decide +kernel
theorem dX0_withdrawn_4 : decode cX0_withdrawn 4 = .ok (.iload_n 2, 1) := by decide +kernel
theorem dX0_withdrawn_5 : decode cX0_withdrawn 5 = .ok (.aload_n 0, 1) := by decide +kernel
theorem dX0_withdrawn_6 : decode cX0_withdrawn 6 = .ok (.getfield 25, 3) := by decide +kernel
theorem dX0_withdrawn_9 : decode cX0_withdrawn 9 = .ok (.if_icmp .ge 32, 3) := by decide +kernel
theorem dX0_withdrawn_12 : decode cX0_withdrawn 12 = .ok (.aload_n 0, 1) := by decide +kernel
theorem dX0_withdrawn_13 : decode cX0_withdrawn 13 = .ok (.iload_n 2, 1) := by decide +kernel
theorem dX0_withdrawn_14 : decode cX0_withdrawn 14 = .ok (.invokevirtual 34, 3) := by decide +kernel
theorem dX0_withdrawn_17 : decode cX0_withdrawn 17 = .ok (.astore_n 3, 1) := by decide +kernel
theorem dX0_withdrawn_18 : decode cX0_withdrawn 18 = .ok (.aload_n 3, 1) := by decide +kernel
theorem dX0_withdrawn_19 : decode cX0_withdrawn 19 = .ok (.ifnull 16, 3) := by decide +kernel
theorem dX0_withdrawn_22 : decode cX0_withdrawn 22 = .ok (.aload_n 3, 1) := by decide +kernel
theorem dX0_withdrawn_23 : decode cX0_withdrawn 23 = .ok (.getfield 54, 3) := by decide +kernel
theorem dX0_withdrawn_26 : decode cX0_withdrawn 26 = .ok (.ifCond .eq 9, 3) := by decide +kernel
theorem dX0_withdrawn_29 : decode cX0_withdrawn 29 = .ok (.iload_n 1, 1) := by decide +kernel
theorem dX0_withdrawn_30 : decode cX0_withdrawn 30 = .ok (.iconst 1, 1) := by decide +kernel
theorem dX0_withdrawn_31 : decode cX0_withdrawn 31 = .ok (.iload_n 2, 1) := by decide +kernel
theorem dX0_withdrawn_32 : decode cX0_withdrawn 32 = .ok (.ishl, 1) := by decide +kernel
theorem dX0_withdrawn_33 : decode cX0_withdrawn 33 = .ok (.ior, 1) := by decide +kernel
theorem dX0_withdrawn_34 : decode cX0_withdrawn 34 = .ok (.istore_n 1, 1) := by decide +kernel
theorem dX0_withdrawn_35 : decode cX0_withdrawn 35 = .ok (.iinc 2 1, 3) := by decide +kernel
theorem dX0_withdrawn_38 : decode cX0_withdrawn 38 = .ok (.goto (-34), 3) := by decide +kernel
theorem dX0_withdrawn_41 : decode cX0_withdrawn 41 = .ok (.iload_n 1, 1) := by decide +kernel
theorem dX0_withdrawn_42 : decode cX0_withdrawn 42 = .ok (.ireturn, 1) := by decide +kernel
set_option maxRecDepth 20000 in
theorem ggX0_struck_X0_find : GoodIn wsX0_struck wsX0_find := goodIn_r _ [7, 1, 8, 9, 10, 11, 12, 13, 14] (by decide +kernel) (by decide +kernel)
set_option maxRecDepth 20000 in
theorem gX0_struck_X0_find : GoodIn wsX0_struck (wsV RX0 34 RX0 yX0_find wsX0_find) := goodIn_app (goodIn_of _ (by decide +kernel)) ggX0_struck_X0_find
theorem dX0_struck_0 : decode cX0_struck 0 = .ok (.iconst 0, 1) := by decide +kernel
theorem dX0_struck_1 : decode cX0_struck 1 = .ok (.istore_n 1, 1) := by decide +kernel
theorem dX0_struck_2 : decode cX0_struck 2 = .ok (.iconst 0, 1) := by decide +kernel
theorem dX0_struck_3 : decode cX0_struck 3 = .ok (.istore_n 2, 1) := by decide +kernel
theorem dX0_struck_4 : decode cX0_struck 4 = .ok (.iload_n 2, 1) := by decide +kernel
theorem dX0_struck_5 : decode cX0_struck 5 = .ok (.iconst 1, 1) := by decide +kernel
theorem dX0_struck_6 : decode cX0_struck 6 = .ok (.if_icmp .gt 94, 3) := by decide +kernel
theorem dX0_struck_9 : decode cX0_struck 9 = .ok (.iconst 0, 1) := by decide +kernel
theorem dX0_struck_10 : decode cX0_struck 10 = .ok (.istore_n 3, 1) := by decide +kernel
theorem dX0_struck_11 : decode cX0_struck 11 = .ok (.iconst 0, 1) := by decide +kernel
theorem dX0_struck_12 : decode cX0_struck 12 = .ok (.istore 4, 2) := by decide +kernel
theorem dX0_struck_14 : decode cX0_struck 14 = .ok (.iload 4, 2) := by decide +kernel
theorem dX0_struck_16 : decode cX0_struck 16 = .ok (.aload_n 0, 1) := by decide +kernel
theorem dX0_struck_17 : decode cX0_struck 17 = .ok (.getfield 25, 3) := by decide +kernel
theorem dX0_struck_20 : decode cX0_struck 20 = .ok (.if_icmp .ge 74, 3) := by decide +kernel
theorem dX0_struck_23 : decode cX0_struck 23 = .ok (.aload_n 0, 1) := by decide +kernel
theorem dX0_struck_24 : decode cX0_struck 24 = .ok (.iload 4, 2) := by decide +kernel
theorem dX0_struck_26 : decode cX0_struck 26 = .ok (.invokevirtual 34, 3) := by decide +kernel
theorem dX0_struck_29 : decode cX0_struck 29 = .ok (.astore 5, 2) := by decide +kernel
theorem dX0_struck_31 : decode cX0_struck 31 = .ok (.aload 5, 2) := by decide +kernel
theorem dX0_struck_33 : decode cX0_struck 33 = .ok (.ifnull 55, 3) := by decide +kernel
theorem dX0_struck_36 : decode cX0_struck 36 = .ok (.aload 5, 2) := by decide +kernel
theorem dX0_struck_38 : decode cX0_struck 38 = .ok (.getfield 58, 3) := by decide +kernel
theorem dX0_struck_41 : decode cX0_struck 41 = .ok (.iload_n 2, 1) := by decide +kernel
theorem dX0_struck_42 : decode cX0_struck 42 = .ok (.if_icmp .ne 46, 3) := by decide +kernel
theorem dX0_struck_45 : decode cX0_struck 45 = .ok (.aload 5, 2) := by decide +kernel
theorem dX0_struck_47 : decode cX0_struck 47 = .ok (.getfield 54, 3) := by decide +kernel
theorem dX0_struck_50 : decode cX0_struck 50 = .ok (.ifCond .eq 6, 3) := by decide +kernel
theorem dX0_struck_53 : decode cX0_struck 53 = .ok (.goto 35, 3) := by decide +kernel
theorem dX0_struck_56 : decode cX0_struck 56 = .ok (.iload_n 3, 1) := by decide +kernel
theorem dX0_struck_57 : decode cX0_struck 57 = .ok (.aload 5, 2) := by decide +kernel
theorem dX0_struck_59 : decode cX0_struck 59 = .ok (.getfield 61, 3) := by decide +kernel
theorem dX0_struck_62 : decode cX0_struck 62 = .ok (.iadd, 1) := by decide +kernel
theorem dX0_struck_63 : decode cX0_struck 63 = .ok (.aload_n 0, 1) := by decide +kernel
theorem dX0_struck_64 : decode cX0_struck 64 = .ok (.getfield 21, 3) := by decide +kernel
theorem dX0_struck_67 : decode cX0_struck 67 = .ok (.if_icmp .le 13, 3) := by decide +kernel
theorem dX0_struck_70 : decode cX0_struck 70 = .ok (.iload_n 1, 1) := by decide +kernel
theorem dX0_struck_71 : decode cX0_struck 71 = .ok (.iconst 1, 1) := by decide +kernel
theorem dX0_struck_72 : decode cX0_struck 72 = .ok (.iload 4, 2) := by decide +kernel
theorem dX0_struck_74 : decode cX0_struck 74 = .ok (.ishl, 1) := by decide +kernel
theorem dX0_struck_75 : decode cX0_struck 75 = .ok (.ior, 1) := by decide +kernel
theorem dX0_struck_76 : decode cX0_struck 76 = .ok (.istore_n 1, 1) := by decide +kernel
theorem dX0_struck_77 : decode cX0_struck 77 = .ok (.goto 11, 3) := by decide +kernel
theorem dX0_struck_80 : decode cX0_struck 80 = .ok (.iload_n 3, 1) := by decide +kernel
theorem dX0_struck_81 : decode cX0_struck 81 = .ok (.aload 5, 2) := by decide +kernel
theorem dX0_struck_83 : decode cX0_struck 83 = .ok (.getfield 61, 3) := by decide +kernel
theorem dX0_struck_86 : decode cX0_struck 86 = .ok (.iadd, 1) := by decide +kernel
theorem dX0_struck_87 : decode cX0_struck 87 = .ok (.istore_n 3, 1) := by decide +kernel
theorem dX0_struck_88 : decode cX0_struck 88 = .ok (.iinc 4 1, 3) := by decide +kernel
theorem dX0_struck_91 : decode cX0_struck 91 = .ok (.goto (-77), 3) := by decide +kernel
theorem dX0_struck_94 : decode cX0_struck 94 = .ok (.iinc 2 1, 3) := by decide +kernel
theorem dX0_struck_97 : decode cX0_struck 97 = .ok (.goto (-93), 3) := by decide +kernel
theorem dX0_struck_100 : decode cX0_struck 100 = .ok (.iload_n 1, 1) := by decide +kernel
theorem dX0_struck_101 : decode cX0_struck 101 = .ok (.ireturn, 1) := by decide +kernel
set_option maxRecDepth 20000 in
theorem ggX0_lapsedOn_X0_find : GoodIn wsX0_lapsedOn wsX0_find := goodIn_r _ [7, 1, 8, 9, 10, 11, 12, 13, 14] (by decide +kernel) (by decide +kernel)
set_option maxRecDepth 20000 in
theorem gX0_lapsedOn_X0_find : GoodIn wsX0_lapsedOn (wsV RX0 34 RX0 yX0_find wsX0_find) := goodIn_app (goodIn_of _ (by decide +kernel)) ggX0_lapsedOn_X0_find
theorem dX0_lapsedOn_0 : decode cX0_lapsedOn 0 = .ok (.iconst 0, 1) := by decide +kernel
theorem dX0_lapsedOn_1 : decode cX0_lapsedOn 1 = .ok (.istore_n 2, 1) := by decide +kernel
theorem dX0_lapsedOn_2 : decode cX0_lapsedOn 2 = .ok (.iconst 0, 1) := by decide +kernel
theorem dX0_lapsedOn_3 : decode cX0_lapsedOn 3 = .ok (.istore_n 3, 1) := by decide +kernel
theorem dX0_lapsedOn_4 : decode cX0_lapsedOn 4 = .ok (.iload_n 3, 1) := by decide +kernel
theorem dX0_lapsedOn_5 : decode cX0_lapsedOn 5 = .ok (.aload_n 0, 1) := by decide +kernel
theorem dX0_lapsedOn_6 : decode cX0_lapsedOn 6 = .ok (.getfield 25, 3) := by decide +kernel
theorem dX0_lapsedOn_9 : decode cX0_lapsedOn 9 = .ok (.if_icmp .ge 51, 3) := by decide +kernel
theorem dX0_lapsedOn_12 : decode cX0_lapsedOn 12 = .ok (.aload_n 0, 1) := by decide +kernel
theorem dX0_lapsedOn_13 : decode cX0_lapsedOn 13 = .ok (.iload_n 3, 1) := by decide +kernel
theorem dX0_lapsedOn_14 : decode cX0_lapsedOn 14 = .ok (.invokevirtual 34, 3) := by decide +kernel
theorem dX0_lapsedOn_17 : decode cX0_lapsedOn 17 = .ok (.astore 4, 2) := by decide +kernel
theorem dX0_lapsedOn_19 : decode cX0_lapsedOn 19 = .ok (.aload 4, 2) := by decide +kernel
theorem dX0_lapsedOn_21 : decode cX0_lapsedOn 21 = .ok (.ifnull 33, 3) := by decide +kernel
theorem dX0_lapsedOn_24 : decode cX0_lapsedOn 24 = .ok (.aload 4, 2) := by decide +kernel
theorem dX0_lapsedOn_26 : decode cX0_lapsedOn 26 = .ok (.getfield 67, 3) := by decide +kernel
theorem dX0_lapsedOn_29 : decode cX0_lapsedOn 29 = .ok (.bipush (-6), 2) := by decide +kernel
theorem dX0_lapsedOn_31 : decode cX0_lapsedOn 31 = .ok (.if_icmp .eq 23, 3) := by decide +kernel
theorem dX0_lapsedOn_34 : decode cX0_lapsedOn 34 = .ok (.iload_n 1, 1) := by decide +kernel
theorem dX0_lapsedOn_35 : decode cX0_lapsedOn 35 = .ok (.aload 4, 2) := by decide +kernel
theorem dX0_lapsedOn_37 : decode cX0_lapsedOn 37 = .ok (.getfield 73, 3) := by decide +kernel
theorem dX0_lapsedOn_40 : decode cX0_lapsedOn 40 = .ok (.isub, 1) := by decide +kernel
theorem dX0_lapsedOn_41 : decode cX0_lapsedOn 41 = .ok (.aload_n 0, 1) := by decide +kernel
theorem dX0_lapsedOn_42 : decode cX0_lapsedOn 42 = .ok (.getfield 17, 3) := by decide +kernel
theorem dX0_lapsedOn_45 : decode cX0_lapsedOn 45 = .ok (.if_icmp .le 9, 3) := by decide +kernel
theorem dX0_lapsedOn_48 : decode cX0_lapsedOn 48 = .ok (.iload_n 2, 1) := by decide +kernel
theorem dX0_lapsedOn_49 : decode cX0_lapsedOn 49 = .ok (.iconst 1, 1) := by decide +kernel
theorem dX0_lapsedOn_50 : decode cX0_lapsedOn 50 = .ok (.iload_n 3, 1) := by decide +kernel
theorem dX0_lapsedOn_51 : decode cX0_lapsedOn 51 = .ok (.ishl, 1) := by decide +kernel
theorem dX0_lapsedOn_52 : decode cX0_lapsedOn 52 = .ok (.ior, 1) := by decide +kernel
theorem dX0_lapsedOn_53 : decode cX0_lapsedOn 53 = .ok (.istore_n 2, 1) := by decide +kernel
theorem dX0_lapsedOn_54 : decode cX0_lapsedOn 54 = .ok (.iinc 3 1, 3) := by decide +kernel
theorem dX0_lapsedOn_57 : decode cX0_lapsedOn 57 = .ok (.goto (-53), 3) := by decide +kernel
theorem dX0_lapsedOn_60 : decode cX0_lapsedOn 60 = .ok (.iload_n 2, 1) := by decide +kernel
theorem dX0_lapsedOn_61 : decode cX0_lapsedOn 61 = .ok (.ireturn, 1) := by decide +kernel
set_option maxRecDepth 20000 in
theorem ggX0_baseless_X0_find : GoodIn wsX0_baseless wsX0_find := goodIn_r _ [7, 1, 8, 9, 10, 11, 12, 13, 14] (by decide +kernel) (by decide +kernel)
set_option maxRecDepth 20000 in
theorem gX0_baseless_X0_find : GoodIn wsX0_baseless (wsV RX0 34 RX0 yX0_find wsX0_find) := goodIn_app (goodIn_of _ (by decide +kernel)) ggX0_baseless_X0_find
theorem dX0_baseless_0 : decode cX0_baseless 0 = .ok (.iconst 0, 1) := by decide +kernel
theorem dX0_baseless_1 : decode cX0_baseless 1 = .ok (.istore_n 1, 1) := by decide +kernel
theorem dX0_baseless_2 : decode cX0_baseless 2 = .ok (.iconst 0, 1) := by decide +kernel
theorem dX0_baseless_3 : decode cX0_baseless 3 = .ok (.istore_n 2, 1) := by decide +kernel
theorem dX0_baseless_4 : decode cX0_baseless 4 = .ok (.iload_n 2, 1) := by decide +kernel
theorem dX0_baseless_5 : decode cX0_baseless 5 = .ok (.aload_n 0, 1) := by decide +kernel
theorem dX0_baseless_6 : decode cX0_baseless 6 = .ok (.getfield 25, 3) := by decide +kernel
theorem dX0_baseless_9 : decode cX0_baseless 9 = .ok (.if_icmp .ge 46, 3) := by decide +kernel
theorem dX0_baseless_12 : decode cX0_baseless 12 = .ok (.aload_n 0, 1) := by decide +kernel
theorem dX0_baseless_13 : decode cX0_baseless 13 = .ok (.iload_n 2, 1) := by decide +kernel
theorem dX0_baseless_14 : decode cX0_baseless 14 = .ok (.invokevirtual 34, 3) := by decide +kernel
theorem dX0_baseless_17 : decode cX0_baseless 17 = .ok (.astore_n 3, 1) := by decide +kernel
theorem dX0_baseless_18 : decode cX0_baseless 18 = .ok (.aload_n 3, 1) := by decide +kernel
theorem dX0_baseless_19 : decode cX0_baseless 19 = .ok (.ifnull 30, 3) := by decide +kernel
theorem dX0_baseless_22 : decode cX0_baseless 22 = .ok (.aload_n 3, 1) := by decide +kernel
theorem dX0_baseless_23 : decode cX0_baseless 23 = .ok (.getfield 64, 3) := by decide +kernel
theorem dX0_baseless_26 : decode cX0_baseless 26 = .ok (.ifCond .eq 23, 3) := by decide +kernel
theorem dX0_baseless_29 : decode cX0_baseless 29 = .ok (.aload_n 3, 1) := by decide +kernel
theorem dX0_baseless_30 : decode cX0_baseless 30 = .ok (.getfield 64, 3) := by decide +kernel
theorem dX0_baseless_33 : decode cX0_baseless 33 = .ok (.aload_n 0, 1) := by decide +kernel
theorem dX0_baseless_34 : decode cX0_baseless 34 = .ok (.getfield 31, 3) := by decide +kernel
theorem dX0_baseless_37 : decode cX0_baseless 37 = .ok (.iconst (-1), 1) := by decide +kernel
theorem dX0_baseless_38 : decode cX0_baseless 38 = .ok (.ixor, 1) := by decide +kernel
theorem dX0_baseless_39 : decode cX0_baseless 39 = .ok (.iand, 1) := by decide +kernel
theorem dX0_baseless_40 : decode cX0_baseless 40 = .ok (.ifCond .ne 9, 3) := by decide +kernel
theorem dX0_baseless_43 : decode cX0_baseless 43 = .ok (.iload_n 1, 1) := by decide +kernel
theorem dX0_baseless_44 : decode cX0_baseless 44 = .ok (.iconst 1, 1) := by decide +kernel
theorem dX0_baseless_45 : decode cX0_baseless 45 = .ok (.iload_n 2, 1) := by decide +kernel
theorem dX0_baseless_46 : decode cX0_baseless 46 = .ok (.ishl, 1) := by decide +kernel
theorem dX0_baseless_47 : decode cX0_baseless 47 = .ok (.ior, 1) := by decide +kernel
theorem dX0_baseless_48 : decode cX0_baseless 48 = .ok (.istore_n 1, 1) := by decide +kernel
theorem dX0_baseless_49 : decode cX0_baseless 49 = .ok (.iinc 2 1, 3) := by decide +kernel
theorem dX0_baseless_52 : decode cX0_baseless 52 = .ok (.goto (-48), 3) := by decide +kernel
theorem dX0_baseless_55 : decode cX0_baseless 55 = .ok (.iload_n 1, 1) := by decide +kernel
theorem dX0_baseless_56 : decode cX0_baseless 56 = .ok (.ireturn, 1) := by decide +kernel
set_option maxRecDepth 20000 in
theorem ggX0_out_X0_withdrawn : GoodIn wsX0_out wsX0_withdrawn := goodIn_r _ [6, 7, 8, 9, 10, 5, 11, 12, 28, 29, 30, 31, 32, 33, 34, 35, 36, 37, 38, 39, 40] (by decide +kernel) (by decide +kernel)
set_option maxRecDepth 20000 in
theorem gX0_out_X0_withdrawn : GoodIn wsX0_out (wsV RX0 98 RX0 yX0_withdrawn wsX0_withdrawn) := goodIn_app (goodIn_of _ (by decide +kernel)) ggX0_out_X0_withdrawn
set_option maxRecDepth 20000 in
theorem ggX0_out_X0_struck : GoodIn wsX0_out wsX0_struck := goodIn_r _ [16, 7, 17, 8, 9, 10, 5, 11, 12, 28, 29, 30, 31, 32, 33, 34, 35, 36, 37, 38, 39, 40] (by decide +kernel) (by decide +kernel)
set_option maxRecDepth 20000 in
theorem gX0_out_X0_struck : GoodIn wsX0_out (wsV RX0 100 RX0 yX0_struck wsX0_struck) := goodIn_app (goodIn_of _ (by decide +kernel)) ggX0_out_X0_struck
set_option maxRecDepth 20000 in
theorem ggX0_out_X0_lapsedOn : GoodIn wsX0_out wsX0_lapsedOn := goodIn_r _ [21, 7, 22, 8, 9, 10, 5, 11, 12, 28, 29, 30, 31, 32, 33, 34, 35, 36, 37, 38, 39, 40] (by decide +kernel) (by decide +kernel)
set_option maxRecDepth 20000 in
theorem gX0_out_X0_lapsedOn : GoodIn wsX0_out (wsV RX0 103 RX0 yX0_lapsedOn wsX0_lapsedOn) := goodIn_app (goodIn_of _ (by decide +kernel)) ggX0_out_X0_lapsedOn
set_option maxRecDepth 20000 in
theorem ggX0_out_X0_baseless : GoodIn wsX0_out wsX0_baseless := goodIn_r _ [26, 7, 27, 8, 9, 10, 5, 11, 12, 28, 29, 30, 31, 32, 33, 34, 35, 36, 37, 38, 39, 40] (by decide +kernel) (by decide +kernel)
set_option maxRecDepth 20000 in
theorem gX0_out_X0_baseless : GoodIn wsX0_out (wsV RX0 106 RX0 yX0_baseless wsX0_baseless) := goodIn_app (goodIn_of _ (by decide +kernel)) ggX0_out_X0_baseless
theorem dX0_out_0 : decode cX0_out 0 = .ok (.aload_n 0, 1) := by decide +kernel
theorem dX0_out_1 : decode cX0_out 1 = .ok (.invokevirtual 98, 3) := by decide +kernel
theorem dX0_out_4 : decode cX0_out 4 = .ok (.aload_n 0, 1) := by decide +kernel
theorem dX0_out_5 : decode cX0_out 5 = .ok (.invokevirtual 100, 3) := by decide +kernel
theorem dX0_out_8 : decode cX0_out 8 = .ok (.ior, 1) := by decide +kernel
theorem dX0_out_9 : decode cX0_out 9 = .ok (.aload_n 0, 1) := by decide +kernel
theorem dX0_out_10 : decode cX0_out 10 = .ok (.aload_n 0, 1) := by decide +kernel
theorem dX0_out_11 : decode cX0_out 11 = .ok (.getfield 28, 3) := by decide +kernel
theorem dX0_out_14 : decode cX0_out 14 = .ok (.invokevirtual 103, 3) := by decide +kernel
theorem dX0_out_17 : decode cX0_out 17 = .ok (.ior, 1) := by decide +kernel
theorem dX0_out_18 : decode cX0_out 18 = .ok (.aload_n 0, 1) := by decide +kernel
theorem dX0_out_19 : decode cX0_out 19 = .ok (.invokevirtual 106, 3) := by decide +kernel
theorem dX0_out_22 : decode cX0_out 22 = .ok (.ior, 1) := by decide +kernel
theorem dX0_out_23 : decode cX0_out 23 = .ok (.ireturn, 1) := by decide +kernel
set_option maxRecDepth 20000 in
theorem ggX0_standing_X0_out : GoodIn wsX0_standing wsX0_out := goodIn_r _ [5, 6, 7, 8, 9, 4, 10, 11, 12, 13, 14, 15, 16, 17, 18, 19, 20, 21, 22, 23, 24, 25, 26, 27, 28, 29, 30, 31, 43, 44, 45, 46, 47, 48, 49, 50, 51, 52, 53, 54, 55] (by decide +kernel) (by decide +kernel)
set_option maxRecDepth 20000 in
theorem gX0_standing_X0_out : GoodIn wsX0_standing (wsV RX0 109 RX0 yX0_out wsX0_out) := goodIn_app (goodIn_of _ (by decide +kernel)) ggX0_standing_X0_out
set_option maxRecDepth 20000 in
theorem ggX0_standing_X0_standingIf : GoodIn wsX0_standing wsX0_standingIf := goodIn_r _ [35, 11, 36, 37, 38, 39, 40, 41, 4, 42, 12, 13, 14, 15, 16, 43, 44, 45, 46, 47, 48, 49, 50, 51, 52, 53, 54, 55] (by decide +kernel) (by decide +kernel)
set_option maxRecDepth 20000 in
theorem gX0_standing_X0_standingIf : GoodIn wsX0_standing (wsV RX0 112 RX0 yX0_standingIf wsX0_standingIf) := goodIn_app (goodIn_of _ (by decide +kernel)) ggX0_standing_X0_standingIf
theorem dX0_standing_0 : decode cX0_standing 0 = .ok (.aload_n 0, 1) := by decide +kernel
theorem dX0_standing_1 : decode cX0_standing 1 = .ok (.aload_n 0, 1) := by decide +kernel
theorem dX0_standing_2 : decode cX0_standing 2 = .ok (.invokevirtual 109, 3) := by decide +kernel
theorem dX0_standing_5 : decode cX0_standing 5 = .ok (.iconst 0, 1) := by decide +kernel
theorem dX0_standing_6 : decode cX0_standing 6 = .ok (.invokevirtual 112, 3) := by decide +kernel
theorem dX0_standing_9 : decode cX0_standing 9 = .ok (.ireturn, 1) := by decide +kernel
set_option maxRecDepth 20000 in
theorem ggX0_answered_X0_all : GoodIn wsX0_answered wsX0_all := goodIn_r _ [5, 6, 51, 52, 53, 54, 55, 56] (by decide +kernel) (by decide +kernel)
set_option maxRecDepth 20000 in
theorem gX0_answered_X0_all : GoodIn wsX0_answered (wsV RX0 92 RX0 yX0_all wsX0_all) := goodIn_app (goodIn_of _ (by decide +kernel)) ggX0_answered_X0_all
set_option maxRecDepth 20000 in
theorem ggX0_answered_X0_out : GoodIn wsX0_answered wsX0_out := goodIn_r _ [10, 11, 12, 13, 14, 4, 15, 6, 16, 17, 18, 19, 20, 21, 22, 23, 24, 25, 26, 27, 28, 29, 30, 31, 32, 33, 34, 35, 51, 52, 53, 54, 55, 56, 57, 58, 59, 60, 61, 62, 63] (by decide +kernel) (by decide +kernel)
set_option maxRecDepth 20000 in
theorem gX0_answered_X0_out : GoodIn wsX0_answered (wsV RX0 109 RX0 yX0_out wsX0_out) := goodIn_app (goodIn_of _ (by decide +kernel)) ggX0_answered_X0_out
set_option maxRecDepth 20000 in
theorem ggX0_answered_X0_standing : GoodIn wsX0_answered wsX0_standing := goodIn_r _ [39, 7, 8, 9, 4, 10, 11, 12, 13, 14, 15, 6, 16, 17, 18, 19, 20, 21, 22, 23, 24, 25, 26, 27, 28, 29, 30, 31, 32, 33, 34, 35, 40, 41, 42, 43, 44, 45, 46, 47, 48, 49, 50, 51, 52, 53, 54, 55, 56, 57, 58, 59, 60, 61, 62, 63] (by decide +kernel) (by decide +kernel)
set_option maxRecDepth 20000 in
theorem gX0_answered_X0_standing : GoodIn wsX0_answered (wsV RX0 76 RX0 yX0_standing wsX0_standing) := goodIn_app (goodIn_of _ (by decide +kernel)) ggX0_answered_X0_standing
theorem dX0_answered_0 : decode cX0_answered 0 = .ok (.aload_n 0, 1) := by decide +kernel
theorem dX0_answered_1 : decode cX0_answered 1 = .ok (.invokevirtual 92, 3) := by decide +kernel
theorem dX0_answered_4 : decode cX0_answered 4 = .ok (.aload_n 0, 1) := by decide +kernel
theorem dX0_answered_5 : decode cX0_answered 5 = .ok (.invokevirtual 109, 3) := by decide +kernel
theorem dX0_answered_8 : decode cX0_answered 8 = .ok (.iconst (-1), 1) := by decide +kernel
theorem dX0_answered_9 : decode cX0_answered 9 = .ok (.ixor, 1) := by decide +kernel
theorem dX0_answered_10 : decode cX0_answered 10 = .ok (.iand, 1) := by decide +kernel
theorem dX0_answered_11 : decode cX0_answered 11 = .ok (.aload_n 0, 1) := by decide +kernel
theorem dX0_answered_12 : decode cX0_answered 12 = .ok (.invokevirtual 76, 3) := by decide +kernel
theorem dX0_answered_15 : decode cX0_answered 15 = .ok (.iconst (-1), 1) := by decide +kernel
theorem dX0_answered_16 : decode cX0_answered 16 = .ok (.ixor, 1) := by decide +kernel
theorem dX0_answered_17 : decode cX0_answered 17 = .ok (.iand, 1) := by decide +kernel
theorem dX0_answered_18 : decode cX0_answered 18 = .ok (.ireturn, 1) := by decide +kernel
set_option maxRecDepth 20000 in
theorem ggX0_standingIf_X6_has : GoodIn wsX0_standingIf wsX6_has := goodIn_r _ [4] (by decide +kernel) (by decide +kernel)
set_option maxRecDepth 20000 in
theorem gX0_standingIf_X6_has_n86 : GoodIn wsX0_standingIf (wsX6_has) := ggX0_standingIf_X6_has
set_option maxRecDepth 20000 in
theorem ggX0_standingIf_X0_targetOf : GoodIn wsX0_standingIf wsX0_targetOf := goodIn_r _ [9, 10, 11, 12, 8, 13, 1, 14, 21, 22, 23, 24, 25, 26, 27, 15, 16, 17, 18, 19, 20] (by decide +kernel) (by decide +kernel)
set_option maxRecDepth 20000 in
theorem gX0_standingIf_X0_targetOf : GoodIn wsX0_standingIf (wsV RX0 95 RX0 yX0_targetOf wsX0_targetOf) := goodIn_app (goodIn_of _ (by decide +kernel)) ggX0_standingIf_X0_targetOf
theorem dX0_standingIf_0 : decode cX0_standingIf 0 = .ok (.iload_n 2, 1) := by decide +kernel
theorem dX0_standingIf_1 : decode cX0_standingIf 1 = .ok (.istore_n 3, 1) := by decide +kernel
theorem dX0_standingIf_2 : decode cX0_standingIf 2 = .ok (.iconst 0, 1) := by decide +kernel
theorem dX0_standingIf_3 : decode cX0_standingIf 3 = .ok (.istore 4, 2) := by decide +kernel
theorem dX0_standingIf_5 : decode cX0_standingIf 5 = .ok (.aload_n 0, 1) := by decide +kernel
theorem dX0_standingIf_6 : decode cX0_standingIf 6 = .ok (.getfield 25, 3) := by decide +kernel
theorem dX0_standingIf_9 : decode cX0_standingIf 9 = .ok (.iconst 1, 1) := by decide +kernel
theorem dX0_standingIf_10 : decode cX0_standingIf 10 = .ok (.isub, 1) := by decide +kernel
theorem dX0_standingIf_11 : decode cX0_standingIf 11 = .ok (.istore 5, 2) := by decide +kernel
theorem dX0_standingIf_13 : decode cX0_standingIf 13 = .ok (.iload 5, 2) := by decide +kernel
theorem dX0_standingIf_15 : decode cX0_standingIf 15 = .ok (.ifCond .lt 38, 3) := by decide +kernel
theorem dX0_standingIf_18 : decode cX0_standingIf 18 = .ok (.iload_n 1, 1) := by decide +kernel
theorem dX0_standingIf_19 : decode cX0_standingIf 19 = .ok (.iload_n 3, 1) := by decide +kernel
theorem dX0_standingIf_20 : decode cX0_standingIf 20 = .ok (.ior, 1) := by decide +kernel
theorem dX0_standingIf_21 : decode cX0_standingIf 21 = .ok (.iload 5, 2) := by decide +kernel
theorem dX0_standingIf_23 : decode cX0_standingIf 23 = .ok (.invokestatic 86, 3) := by decide +kernel
theorem dX0_standingIf_26 : decode cX0_standingIf 26 = .ok (.ifCond .ne 21, 3) := by decide +kernel
theorem dX0_standingIf_29 : decode cX0_standingIf 29 = .ok (.iload 4, 2) := by decide +kernel
theorem dX0_standingIf_31 : decode cX0_standingIf 31 = .ok (.iconst 1, 1) := by decide +kernel
theorem dX0_standingIf_32 : decode cX0_standingIf 32 = .ok (.iload 5, 2) := by decide +kernel
theorem dX0_standingIf_34 : decode cX0_standingIf 34 = .ok (.ishl, 1) := by decide +kernel
theorem dX0_standingIf_35 : decode cX0_standingIf 35 = .ok (.ior, 1) := by decide +kernel
theorem dX0_standingIf_36 : decode cX0_standingIf 36 = .ok (.istore 4, 2) := by decide +kernel
theorem dX0_standingIf_38 : decode cX0_standingIf 38 = .ok (.iload_n 3, 1) := by decide +kernel
theorem dX0_standingIf_39 : decode cX0_standingIf 39 = .ok (.aload_n 0, 1) := by decide +kernel
theorem dX0_standingIf_40 : decode cX0_standingIf 40 = .ok (.iload 5, 2) := by decide +kernel
theorem dX0_standingIf_42 : decode cX0_standingIf 42 = .ok (.invokevirtual 95, 3) := by decide +kernel
theorem dX0_standingIf_45 : decode cX0_standingIf 45 = .ok (.ior, 1) := by decide +kernel
theorem dX0_standingIf_46 : decode cX0_standingIf 46 = .ok (.istore_n 3, 1) := by decide +kernel
theorem dX0_standingIf_47 : decode cX0_standingIf 47 = .ok (.iinc 5 (-1), 3) := by decide +kernel
theorem dX0_standingIf_50 : decode cX0_standingIf 50 = .ok (.goto (-37), 3) := by decide +kernel
theorem dX0_standingIf_53 : decode cX0_standingIf 53 = .ok (.iload 4, 2) := by decide +kernel
theorem dX0_standingIf_55 : decode cX0_standingIf 55 = .ok (.ireturn, 1) := by decide +kernel
set_option maxRecDepth 20000 in
theorem ggX0_reasonAgainst_X0_withdrawn : GoodIn wsX0_reasonAgainst wsX0_withdrawn := goodIn_r _ [6, 7, 8, 9, 10, 5, 11, 12, 47, 48, 49, 50, 51, 52, 53, 54, 55, 56, 57, 58, 59] (by decide +kernel) (by decide +kernel)
set_option maxRecDepth 20000 in
theorem gX0_reasonAgainst_X0_withdrawn : GoodIn wsX0_reasonAgainst (wsV RX0 98 RX0 yX0_withdrawn wsX0_withdrawn) := goodIn_app (goodIn_of _ (by decide +kernel)) ggX0_reasonAgainst_X0_withdrawn
set_option maxRecDepth 20000 in
theorem ggX0_reasonAgainst_X6_has : GoodIn wsX0_reasonAgainst wsX6_has := goodIn_r _ [15] (by decide +kernel) (by decide +kernel)
set_option maxRecDepth 20000 in
theorem gX0_reasonAgainst_X6_has_n86 : GoodIn wsX0_reasonAgainst (wsX6_has) := ggX0_reasonAgainst_X6_has
set_option maxRecDepth 20000 in
theorem ggX0_reasonAgainst_X0_struck : GoodIn wsX0_reasonAgainst wsX0_struck := goodIn_r _ [19, 7, 20, 8, 9, 10, 5, 11, 12, 47, 48, 49, 50, 51, 52, 53, 54, 55, 56, 57, 58, 59] (by decide +kernel) (by decide +kernel)
set_option maxRecDepth 20000 in
theorem gX0_reasonAgainst_X0_struck : GoodIn wsX0_reasonAgainst (wsV RX0 100 RX0 yX0_struck wsX0_struck) := goodIn_app (goodIn_of _ (by decide +kernel)) ggX0_reasonAgainst_X0_struck
set_option maxRecDepth 20000 in
theorem ggX0_reasonAgainst_X0_lapsedOn : GoodIn wsX0_reasonAgainst wsX0_lapsedOn := goodIn_r _ [24, 7, 25, 8, 9, 10, 5, 11, 12, 47, 48, 49, 50, 51, 52, 53, 54, 55, 56, 57, 58, 59] (by decide +kernel) (by decide +kernel)
set_option maxRecDepth 20000 in
theorem gX0_reasonAgainst_X0_lapsedOn : GoodIn wsX0_reasonAgainst (wsV RX0 103 RX0 yX0_lapsedOn wsX0_lapsedOn) := goodIn_app (goodIn_of _ (by decide +kernel)) ggX0_reasonAgainst_X0_lapsedOn
set_option maxRecDepth 20000 in
theorem ggX0_reasonAgainst_X0_baseless : GoodIn wsX0_reasonAgainst wsX0_baseless := goodIn_r _ [29, 7, 30, 8, 9, 10, 5, 11, 12, 47, 48, 49, 50, 51, 52, 53, 54, 55, 56, 57, 58, 59] (by decide +kernel) (by decide +kernel)
set_option maxRecDepth 20000 in
theorem gX0_reasonAgainst_X0_baseless : GoodIn wsX0_reasonAgainst (wsV RX0 106 RX0 yX0_baseless wsX0_baseless) := goodIn_app (goodIn_of _ (by decide +kernel)) ggX0_reasonAgainst_X0_baseless
set_option maxRecDepth 20000 in
theorem ggX0_reasonAgainst_X0_standing : GoodIn wsX0_reasonAgainst wsX0_standing := goodIn_r _ [34, 35, 36, 37, 5, 38, 1, 2, 3, 4, 6, 7, 8, 9, 10, 11, 12, 16, 17, 18, 19, 20, 21, 22, 23, 24, 25, 26, 27, 28, 29, 30, 39, 40, 41, 42, 13, 14, 15, 43, 44, 45, 46, 47, 48, 49, 50, 51, 52, 53, 54, 55, 56, 57, 58, 59] (by decide +kernel) (by decide +kernel)
set_option maxRecDepth 20000 in
theorem gX0_reasonAgainst_X0_standing : GoodIn wsX0_reasonAgainst (wsV RX0 76 RX0 yX0_standing wsX0_standing) := goodIn_app (goodIn_of _ (by decide +kernel)) ggX0_reasonAgainst_X0_standing
theorem dX0_reasonAgainst_0 : decode cX0_reasonAgainst 0 = .ok (.aload_n 0, 1) := by decide +kernel
theorem dX0_reasonAgainst_1 : decode cX0_reasonAgainst 1 = .ok (.invokevirtual 98, 3) := by decide +kernel
theorem dX0_reasonAgainst_4 : decode cX0_reasonAgainst 4 = .ok (.iload_n 1, 1) := by decide +kernel
theorem dX0_reasonAgainst_5 : decode cX0_reasonAgainst 5 = .ok (.invokestatic 86, 3) := by decide +kernel
theorem dX0_reasonAgainst_8 : decode cX0_reasonAgainst 8 = .ok (.ifCond .eq 5, 3) := by decide +kernel
theorem dX0_reasonAgainst_11 : decode cX0_reasonAgainst 11 = .ok (.iconst 1, 1) := by decide +kernel
theorem dX0_reasonAgainst_12 : decode cX0_reasonAgainst 12 = .ok (.ireturn, 1) := by decide +kernel
theorem dX0_reasonAgainst_13 : decode cX0_reasonAgainst 13 = .ok (.aload_n 0, 1) := by decide +kernel
theorem dX0_reasonAgainst_14 : decode cX0_reasonAgainst 14 = .ok (.invokevirtual 100, 3) := by decide +kernel
theorem dX0_reasonAgainst_17 : decode cX0_reasonAgainst 17 = .ok (.iload_n 1, 1) := by decide +kernel
theorem dX0_reasonAgainst_18 : decode cX0_reasonAgainst 18 = .ok (.invokestatic 86, 3) := by decide +kernel
theorem dX0_reasonAgainst_21 : decode cX0_reasonAgainst 21 = .ok (.ifCond .eq 5, 3) := by decide +kernel
theorem dX0_reasonAgainst_24 : decode cX0_reasonAgainst 24 = .ok (.iconst 2, 1) := by decide +kernel
theorem dX0_reasonAgainst_25 : decode cX0_reasonAgainst 25 = .ok (.ireturn, 1) := by decide +kernel
theorem dX0_reasonAgainst_26 : decode cX0_reasonAgainst 26 = .ok (.aload_n 0, 1) := by decide +kernel
theorem dX0_reasonAgainst_27 : decode cX0_reasonAgainst 27 = .ok (.aload_n 0, 1) := by decide +kernel
theorem dX0_reasonAgainst_28 : decode cX0_reasonAgainst 28 = .ok (.getfield 28, 3) := by decide +kernel
theorem dX0_reasonAgainst_31 : decode cX0_reasonAgainst 31 = .ok (.invokevirtual 103, 3) := by decide +kernel
theorem dX0_reasonAgainst_34 : decode cX0_reasonAgainst 34 = .ok (.iload_n 1, 1) := by decide +kernel
theorem dX0_reasonAgainst_35 : decode cX0_reasonAgainst 35 = .ok (.invokestatic 86, 3) := by decide +kernel
theorem dX0_reasonAgainst_38 : decode cX0_reasonAgainst 38 = .ok (.ifCond .eq 5, 3) := by decide +kernel
theorem dX0_reasonAgainst_41 : decode cX0_reasonAgainst 41 = .ok (.iconst 3, 1) := by decide +kernel
theorem dX0_reasonAgainst_42 : decode cX0_reasonAgainst 42 = .ok (.ireturn, 1) := by decide +kernel
theorem dX0_reasonAgainst_43 : decode cX0_reasonAgainst 43 = .ok (.aload_n 0, 1) := by decide +kernel
theorem dX0_reasonAgainst_44 : decode cX0_reasonAgainst 44 = .ok (.invokevirtual 106, 3) := by decide +kernel
theorem dX0_reasonAgainst_47 : decode cX0_reasonAgainst 47 = .ok (.iload_n 1, 1) := by decide +kernel
theorem dX0_reasonAgainst_48 : decode cX0_reasonAgainst 48 = .ok (.invokestatic 86, 3) := by decide +kernel
theorem dX0_reasonAgainst_51 : decode cX0_reasonAgainst 51 = .ok (.ifCond .eq 5, 3) := by decide +kernel
theorem dX0_reasonAgainst_54 : decode cX0_reasonAgainst 54 = .ok (.iconst 4, 1) := by decide +kernel
theorem dX0_reasonAgainst_55 : decode cX0_reasonAgainst 55 = .ok (.ireturn, 1) := by decide +kernel
theorem dX0_reasonAgainst_56 : decode cX0_reasonAgainst 56 = .ok (.aload_n 0, 1) := by decide +kernel
theorem dX0_reasonAgainst_57 : decode cX0_reasonAgainst 57 = .ok (.invokevirtual 76, 3) := by decide +kernel
theorem dX0_reasonAgainst_60 : decode cX0_reasonAgainst 60 = .ok (.iload_n 1, 1) := by decide +kernel
theorem dX0_reasonAgainst_61 : decode cX0_reasonAgainst 61 = .ok (.invokestatic 86, 3) := by decide +kernel
theorem dX0_reasonAgainst_64 : decode cX0_reasonAgainst 64 = .ok (.ifCond .eq 7, 3) := by decide +kernel
theorem dX0_reasonAgainst_67 : decode cX0_reasonAgainst 67 = .ok (.iconst 0, 1) := by decide +kernel
theorem dX0_reasonAgainst_68 : decode cX0_reasonAgainst 68 = .ok (.goto 4, 3) := by decide +kernel
theorem dX0_reasonAgainst_71 : decode cX0_reasonAgainst 71 = .ok (.iconst 5, 1) := by decide +kernel
theorem dX0_reasonAgainst_72 : decode cX0_reasonAgainst 72 = .ok (.ireturn, 1) := by decide +kernel
set_option maxRecDepth 20000 in
theorem ggX0_depthOf_X0_find : GoodIn wsX0_depthOf wsX0_find := goodIn_r _ [5, 6, 7, 15, 16, 17, 18, 19, 20] (by decide +kernel) (by decide +kernel)
set_option maxRecDepth 20000 in
theorem gX0_depthOf_X0_find : GoodIn wsX0_depthOf (wsV RX0 34 RX0 yX0_find wsX0_find) := goodIn_app (goodIn_of _ (by decide +kernel)) ggX0_depthOf_X0_find
theorem dX0_depthOf_0 : decode cX0_depthOf 0 = .ok (.iconst 0, 1) := by decide +kernel
theorem dX0_depthOf_1 : decode cX0_depthOf 1 = .ok (.istore_n 2, 1) := by decide +kernel
theorem dX0_depthOf_2 : decode cX0_depthOf 2 = .ok (.aload_n 0, 1) := by decide +kernel
theorem dX0_depthOf_3 : decode cX0_depthOf 3 = .ok (.iload_n 1, 1) := by decide +kernel
theorem dX0_depthOf_4 : decode cX0_depthOf 4 = .ok (.invokevirtual 34, 3) := by decide +kernel
theorem dX0_depthOf_7 : decode cX0_depthOf 7 = .ok (.astore_n 3, 1) := by decide +kernel
theorem dX0_depthOf_8 : decode cX0_depthOf 8 = .ok (.iload_n 2, 1) := by decide +kernel
theorem dX0_depthOf_9 : decode cX0_depthOf 9 = .ok (.bipush 24, 2) := by decide +kernel
theorem dX0_depthOf_11 : decode cX0_depthOf 11 = .ok (.if_icmp .ge 31, 3) := by decide +kernel
theorem dX0_depthOf_14 : decode cX0_depthOf 14 = .ok (.aload_n 3, 1) := by decide +kernel
theorem dX0_depthOf_15 : decode cX0_depthOf 15 = .ok (.ifnull 27, 3) := by decide +kernel
theorem dX0_depthOf_18 : decode cX0_depthOf 18 = .ok (.aload_n 3, 1) := by decide +kernel
theorem dX0_depthOf_19 : decode cX0_depthOf 19 = .ok (.getfield 67, 3) := by decide +kernel
theorem dX0_depthOf_22 : decode cX0_depthOf 22 = .ok (.bipush (-6), 2) := by decide +kernel
theorem dX0_depthOf_24 : decode cX0_depthOf 24 = .ok (.if_icmp .eq 18, 3) := by decide +kernel
theorem dX0_depthOf_27 : decode cX0_depthOf 27 = .ok (.iinc 2 1, 3) := by decide +kernel
theorem dX0_depthOf_30 : decode cX0_depthOf 30 = .ok (.aload_n 0, 1) := by decide +kernel
theorem dX0_depthOf_31 : decode cX0_depthOf 31 = .ok (.aload_n 3, 1) := by decide +kernel
theorem dX0_depthOf_32 : decode cX0_depthOf 32 = .ok (.getfield 67, 3) := by decide +kernel
theorem dX0_depthOf_35 : decode cX0_depthOf 35 = .ok (.invokevirtual 34, 3) := by decide +kernel
theorem dX0_depthOf_38 : decode cX0_depthOf 38 = .ok (.astore_n 3, 1) := by decide +kernel
theorem dX0_depthOf_39 : decode cX0_depthOf 39 = .ok (.goto (-31), 3) := by decide +kernel
theorem dX0_depthOf_42 : decode cX0_depthOf 42 = .ok (.iload_n 2, 1) := by decide +kernel
theorem dX0_depthOf_43 : decode cX0_depthOf 43 = .ok (.ireturn, 1) := by decide +kernel
theorem dX0_daysLeft_0 : decode cX0_daysLeft 0 = .ok (.aload_n 1, 1) := by decide +kernel
theorem dX0_daysLeft_1 : decode cX0_daysLeft 1 = .ok (.getfield 73, 3) := by decide +kernel
theorem dX0_daysLeft_4 : decode cX0_daysLeft 4 = .ok (.aload_n 0, 1) := by decide +kernel
theorem dX0_daysLeft_5 : decode cX0_daysLeft 5 = .ok (.getfield 17, 3) := by decide +kernel
theorem dX0_daysLeft_8 : decode cX0_daysLeft 8 = .ok (.iadd, 1) := by decide +kernel
theorem dX0_daysLeft_9 : decode cX0_daysLeft 9 = .ok (.aload_n 0, 1) := by decide +kernel
theorem dX0_daysLeft_10 : decode cX0_daysLeft 10 = .ok (.getfield 28, 3) := by decide +kernel
theorem dX0_daysLeft_13 : decode cX0_daysLeft 13 = .ok (.isub, 1) := by decide +kernel
theorem dX0_daysLeft_14 : decode cX0_daysLeft 14 = .ok (.istore_n 2, 1) := by decide +kernel
theorem dX0_daysLeft_15 : decode cX0_daysLeft 15 = .ok (.aload_n 1, 1) := by decide +kernel
theorem dX0_daysLeft_16 : decode cX0_daysLeft 16 = .ok (.getfield 67, 3) := by decide +kernel
theorem dX0_daysLeft_19 : decode cX0_daysLeft 19 = .ok (.bipush (-6), 2) := by decide +kernel
theorem dX0_daysLeft_21 : decode cX0_daysLeft 21 = .ok (.if_icmp .eq 7, 3) := by decide +kernel
theorem dX0_daysLeft_24 : decode cX0_daysLeft 24 = .ok (.iload_n 2, 1) := by decide +kernel
theorem dX0_daysLeft_25 : decode cX0_daysLeft 25 = .ok (.ifCond .ge 8, 3) := by decide +kernel
theorem dX0_daysLeft_28 : decode cX0_daysLeft 28 = .ok (.bipush (-6), 2) := by decide +kernel
theorem dX0_daysLeft_30 : decode cX0_daysLeft 30 = .ok (.goto 4, 3) := by decide +kernel
theorem dX0_daysLeft_33 : decode cX0_daysLeft 33 = .ok (.iload_n 2, 1) := by decide +kernel
theorem dX0_daysLeft_34 : decode cX0_daysLeft 34 = .ok (.ireturn, 1) := by decide +kernel
set_option maxRecDepth 20000 in
theorem ggX0_pagesOf_X0_find : GoodIn wsX0_pagesOf wsX0_find := goodIn_r _ [6, 1, 7, 11, 12, 13, 14, 15, 16] (by decide +kernel) (by decide +kernel)
set_option maxRecDepth 20000 in
theorem gX0_pagesOf_X0_find : GoodIn wsX0_pagesOf (wsV RX0 34 RX0 yX0_find wsX0_find) := goodIn_app (goodIn_of _ (by decide +kernel)) ggX0_pagesOf_X0_find
set_option maxRecDepth 20000 in
theorem ggX0_pagesOf_X6_has : GoodIn wsX0_pagesOf wsX6_has := goodIn_r _ [10] (by decide +kernel) (by decide +kernel)
set_option maxRecDepth 20000 in
theorem gX0_pagesOf_X6_has_n86 : GoodIn wsX0_pagesOf (wsX6_has) := ggX0_pagesOf_X6_has
theorem dX0_pagesOf_0 : decode cX0_pagesOf 0 = .ok (.iconst 0, 1) := by decide +kernel
theorem dX0_pagesOf_1 : decode cX0_pagesOf 1 = .ok (.istore_n 3, 1) := by decide +kernel
theorem dX0_pagesOf_2 : decode cX0_pagesOf 2 = .ok (.iconst 0, 1) := by decide +kernel
theorem dX0_pagesOf_3 : decode cX0_pagesOf 3 = .ok (.istore 4, 2) := by decide +kernel
theorem dX0_pagesOf_5 : decode cX0_pagesOf 5 = .ok (.iload 4, 2) := by decide +kernel
theorem dX0_pagesOf_7 : decode cX0_pagesOf 7 = .ok (.aload_n 0, 1) := by decide +kernel
theorem dX0_pagesOf_8 : decode cX0_pagesOf 8 = .ok (.getfield 25, 3) := by decide +kernel
theorem dX0_pagesOf_11 : decode cX0_pagesOf 11 = .ok (.if_icmp .ge 48, 3) := by decide +kernel
theorem dX0_pagesOf_14 : decode cX0_pagesOf 14 = .ok (.aload_n 0, 1) := by decide +kernel
theorem dX0_pagesOf_15 : decode cX0_pagesOf 15 = .ok (.iload 4, 2) := by decide +kernel
theorem dX0_pagesOf_17 : decode cX0_pagesOf 17 = .ok (.invokevirtual 34, 3) := by decide +kernel
theorem dX0_pagesOf_20 : decode cX0_pagesOf 20 = .ok (.astore 5, 2) := by decide +kernel
theorem dX0_pagesOf_22 : decode cX0_pagesOf 22 = .ok (.aload 5, 2) := by decide +kernel
theorem dX0_pagesOf_24 : decode cX0_pagesOf 24 = .ok (.ifnull 29, 3) := by decide +kernel
theorem dX0_pagesOf_27 : decode cX0_pagesOf 27 = .ok (.aload 5, 2) := by decide +kernel
theorem dX0_pagesOf_29 : decode cX0_pagesOf 29 = .ok (.getfield 58, 3) := by decide +kernel
theorem dX0_pagesOf_32 : decode cX0_pagesOf 32 = .ok (.iload_n 1, 1) := by decide +kernel
theorem dX0_pagesOf_33 : decode cX0_pagesOf 33 = .ok (.if_icmp .ne 20, 3) := by decide +kernel
theorem dX0_pagesOf_36 : decode cX0_pagesOf 36 = .ok (.iload_n 2, 1) := by decide +kernel
theorem dX0_pagesOf_37 : decode cX0_pagesOf 37 = .ok (.iload 4, 2) := by decide +kernel
theorem dX0_pagesOf_39 : decode cX0_pagesOf 39 = .ok (.invokestatic 86, 3) := by decide +kernel
theorem dX0_pagesOf_42 : decode cX0_pagesOf 42 = .ok (.ifCond .ne 11, 3) := by decide +kernel
theorem dX0_pagesOf_45 : decode cX0_pagesOf 45 = .ok (.iload_n 3, 1) := by decide +kernel
theorem dX0_pagesOf_46 : decode cX0_pagesOf 46 = .ok (.aload 5, 2) := by decide +kernel
theorem dX0_pagesOf_48 : decode cX0_pagesOf 48 = .ok (.getfield 61, 3) := by decide +kernel
theorem dX0_pagesOf_51 : decode cX0_pagesOf 51 = .ok (.iadd, 1) := by decide +kernel
theorem dX0_pagesOf_52 : decode cX0_pagesOf 52 = .ok (.istore_n 3, 1) := by decide +kernel
theorem dX0_pagesOf_53 : decode cX0_pagesOf 53 = .ok (.iinc 4 1, 3) := by decide +kernel
theorem dX0_pagesOf_56 : decode cX0_pagesOf 56 = .ok (.goto (-51), 3) := by decide +kernel
theorem dX0_pagesOf_59 : decode cX0_pagesOf 59 = .ok (.iload_n 3, 1) := by decide +kernel
theorem dX0_pagesOf_60 : decode cX0_pagesOf 60 = .ok (.ireturn, 1) := by decide +kernel
theorem dX1_init_0 : decode cX1_init 0 = .ok (.aload_n 0, 1) := by decide +kernel
theorem dX1_init_1 : decode cX1_init 1 = .ok (.invokespecial 3, 3) := by decide +kernel
theorem dX1_init_4 : decode cX1_init 4 = .ok (.aload_n 0, 1) := by decide +kernel
theorem dX1_init_5 : decode cX1_init 5 = .ok (.bipush 24, 2) := by decide +kernel
theorem dX1_init_7 : decode cX1_init 7 = .ok (.newarray .int, 2) := by decide +kernel
theorem dX1_init_9 : decode cX1_init 9 = .ok (.putfield 9, 3) := by decide +kernel
theorem dX1_init_12 : decode cX1_init 12 = .ok (.aload_n 0, 1) := by decide +kernel
theorem dX1_init_13 : decode cX1_init 13 = .ok (.bipush 24, 2) := by decide +kernel
theorem dX1_init_15 : decode cX1_init 15 = .ok (.newarray .int, 2) := by decide +kernel
theorem dX1_init_17 : decode cX1_init 17 = .ok (.putfield 15, 3) := by decide +kernel
theorem dX1_init_20 : decode cX1_init 20 = .ok (.return_, 1) := by decide +kernel
set_option maxRecDepth 20000 in
theorem ggX1_weigh_X0_out : GoodIn wsX1_weigh wsX0_out := goodIn_r _ [6, 7, 8, 9, 10, 4, 11, 12, 13, 14, 15, 16, 17, 18, 19, 20, 21, 22, 23, 24, 25, 26, 27, 28, 29, 30, 31, 32, 65, 66, 67, 68, 69, 70, 58, 59, 60, 61, 62, 63, 64] (by decide +kernel) (by decide +kernel)
set_option maxRecDepth 20000 in
theorem gX1_weigh_X0_out_n18 : GoodIn wsX1_weigh (wsX0_out) := ggX1_weigh_X0_out
set_option maxRecDepth 20000 in
theorem ggX1_weigh_X0_withoutAnswers : GoodIn wsX1_weigh wsX0_withoutAnswers := goodIn_r _ [35, 12, 36, 37, 38, 4, 39, 40, 41, 42, 43, 13, 14, 15, 16, 17, 65, 66, 67, 68, 69, 70, 58, 59, 60, 61, 62, 63, 64] (by decide +kernel) (by decide +kernel)
set_option maxRecDepth 20000 in
theorem gX1_weigh_X0_withoutAnswers_n24 : GoodIn wsX1_weigh (wsX0_withoutAnswers) := ggX1_weigh_X0_withoutAnswers
set_option maxRecDepth 20000 in
theorem ggX1_weigh_X0_find : GoodIn wsX1_weigh wsX0_find := goodIn_r _ [16, 12, 17, 65, 66, 67, 68, 69, 70] (by decide +kernel) (by decide +kernel)
set_option maxRecDepth 20000 in
theorem gX1_weigh_X0_find_n27 : GoodIn wsX1_weigh (wsX0_find) := ggX1_weigh_X0_find
set_option maxRecDepth 20000 in
theorem ggX1_weigh_X6_has : GoodIn wsX1_weigh wsX6_has := goodIn_r _ [46] (by decide +kernel) (by decide +kernel)
set_option maxRecDepth 20000 in
theorem gX1_weigh_X6_has_n31 : GoodIn wsX1_weigh (wsX6_has) := ggX1_weigh_X6_has
set_option maxRecDepth 20000 in
theorem ggX1_weigh_X1_addToTarget : GoodIn wsX1_weigh wsX1_addToTarget := goodIn_r _ [51, 1, 52, 53, 54, 55, 2, 56, 57] (by decide +kernel) (by decide +kernel)
set_option maxRecDepth 20000 in
theorem gX1_weigh_X1_addToTarget : GoodIn wsX1_weigh (wsV RX1 41 RX1 yX1_addToTarget wsX1_addToTarget) := goodIn_app (goodIn_of _ (by decide +kernel)) ggX1_weigh_X1_addToTarget
theorem dX1_weigh_0 : decode cX1_weigh 0 = .ok (.aload_n 1, 1) := by decide +kernel
theorem dX1_weigh_1 : decode cX1_weigh 1 = .ok (.invokevirtual 18, 3) := by decide +kernel
theorem dX1_weigh_4 : decode cX1_weigh 4 = .ok (.istore_n 2, 1) := by decide +kernel
theorem dX1_weigh_5 : decode cX1_weigh 5 = .ok (.aload_n 1, 1) := by decide +kernel
theorem dX1_weigh_6 : decode cX1_weigh 6 = .ok (.invokevirtual 24, 3) := by decide +kernel
theorem dX1_weigh_9 : decode cX1_weigh 9 = .ok (.istore_n 3, 1) := by decide +kernel
theorem dX1_weigh_10 : decode cX1_weigh 10 = .ok (.iconst 0, 1) := by decide +kernel
theorem dX1_weigh_11 : decode cX1_weigh 11 = .ok (.istore 4, 2) := by decide +kernel
theorem dX1_weigh_13 : decode cX1_weigh 13 = .ok (.iload 4, 2) := by decide +kernel
theorem dX1_weigh_15 : decode cX1_weigh 15 = .ok (.bipush 24, 2) := by decide +kernel
theorem dX1_weigh_17 : decode cX1_weigh 17 = .ok (.if_icmp .ge 27, 3) := by decide +kernel
theorem dX1_weigh_20 : decode cX1_weigh 20 = .ok (.aload_n 0, 1) := by decide +kernel
theorem dX1_weigh_21 : decode cX1_weigh 21 = .ok (.getfield 9, 3) := by decide +kernel
theorem dX1_weigh_24 : decode cX1_weigh 24 = .ok (.iload 4, 2) := by decide +kernel
theorem dX1_weigh_26 : decode cX1_weigh 26 = .ok (.sipush 1000, 3) := by decide +kernel
theorem dX1_weigh_29 : decode cX1_weigh 29 = .ok (.iastore, 1) := by decide +kernel
theorem dX1_weigh_30 : decode cX1_weigh 30 = .ok (.aload_n 0, 1) := by decide +kernel
theorem dX1_weigh_31 : decode cX1_weigh 31 = .ok (.getfield 15, 3) := by decide +kernel
theorem dX1_weigh_34 : decode cX1_weigh 34 = .ok (.iload 4, 2) := by decide +kernel
theorem dX1_weigh_36 : decode cX1_weigh 36 = .ok (.iconst 0, 1) := by decide +kernel
theorem dX1_weigh_37 : decode cX1_weigh 37 = .ok (.iastore, 1) := by decide +kernel
theorem dX1_weigh_38 : decode cX1_weigh 38 = .ok (.iinc 4 1, 3) := by decide +kernel
theorem dX1_weigh_41 : decode cX1_weigh 41 = .ok (.goto (-28), 3) := by decide +kernel
theorem dX1_weigh_44 : decode cX1_weigh 44 = .ok (.bipush 23, 2) := by decide +kernel
theorem dX1_weigh_46 : decode cX1_weigh 46 = .ok (.istore 4, 2) := by decide +kernel
theorem dX1_weigh_48 : decode cX1_weigh 48 = .ok (.iload 4, 2) := by decide +kernel
theorem dX1_weigh_50 : decode cX1_weigh 50 = .ok (.ifCond .lt 95, 3) := by decide +kernel
theorem dX1_weigh_53 : decode cX1_weigh 53 = .ok (.aload_n 1, 1) := by decide +kernel
theorem dX1_weigh_54 : decode cX1_weigh 54 = .ok (.iload 4, 2) := by decide +kernel
theorem dX1_weigh_56 : decode cX1_weigh 56 = .ok (.invokevirtual 27, 3) := by decide +kernel
theorem dX1_weigh_59 : decode cX1_weigh 59 = .ok (.astore 5, 2) := by decide +kernel
theorem dX1_weigh_61 : decode cX1_weigh 61 = .ok (.aload 5, 2) := by decide +kernel
theorem dX1_weigh_63 : decode cX1_weigh 63 = .ok (.ifnonnull 6, 3) := by decide +kernel
theorem dX1_weigh_66 : decode cX1_weigh 66 = .ok (.goto 73, 3) := by decide +kernel
theorem dX1_weigh_69 : decode cX1_weigh 69 = .ok (.iload_n 2, 1) := by decide +kernel
theorem dX1_weigh_70 : decode cX1_weigh 70 = .ok (.iload 4, 2) := by decide +kernel
theorem dX1_weigh_72 : decode cX1_weigh 72 = .ok (.invokestatic 31, 3) := by decide +kernel
theorem dX1_weigh_75 : decode cX1_weigh 75 = .ok (.ifCond .eq 24, 3) := by decide +kernel
theorem dX1_weigh_78 : decode cX1_weigh 78 = .ok (.aload_n 0, 1) := by decide +kernel
theorem dX1_weigh_79 : decode cX1_weigh 79 = .ok (.getfield 9, 3) := by decide +kernel
theorem dX1_weigh_82 : decode cX1_weigh 82 = .ok (.iload 4, 2) := by decide +kernel
theorem dX1_weigh_84 : decode cX1_weigh 84 = .ok (.iconst 0, 1) := by decide +kernel
theorem dX1_weigh_85 : decode cX1_weigh 85 = .ok (.iastore, 1) := by decide +kernel
theorem dX1_weigh_86 : decode cX1_weigh 86 = .ok (.aload_n 0, 1) := by decide +kernel
theorem dX1_weigh_87 : decode cX1_weigh 87 = .ok (.getfield 15, 3) := by decide +kernel
theorem dX1_weigh_90 : decode cX1_weigh 90 = .ok (.iload 4, 2) := by decide +kernel
theorem dX1_weigh_92 : decode cX1_weigh 92 = .ok (.sipush 1000, 3) := by decide +kernel
theorem dX1_weigh_95 : decode cX1_weigh 95 = .ok (.iastore, 1) := by decide +kernel
theorem dX1_weigh_96 : decode cX1_weigh 96 = .ok (.goto 20, 3) := by decide +kernel
theorem dX1_weigh_99 : decode cX1_weigh 99 = .ok (.iload_n 3, 1) := by decide +kernel
theorem dX1_weigh_100 : decode cX1_weigh 100 = .ok (.iload 4, 2) := by decide +kernel
theorem dX1_weigh_102 : decode cX1_weigh 102 = .ok (.invokestatic 31, 3) := by decide +kernel
theorem dX1_weigh_105 : decode cX1_weigh 105 = .ok (.ifCond .eq 11, 3) := by decide +kernel
theorem dX1_weigh_108 : decode cX1_weigh 108 = .ok (.aload_n 0, 1) := by decide +kernel
theorem dX1_weigh_109 : decode cX1_weigh 109 = .ok (.getfield 9, 3) := by decide +kernel
theorem dX1_weigh_112 : decode cX1_weigh 112 = .ok (.iload 4, 2) := by decide +kernel
theorem dX1_weigh_114 : decode cX1_weigh 114 = .ok (.iconst 1, 1) := by decide +kernel
theorem dX1_weigh_115 : decode cX1_weigh 115 = .ok (.iastore, 1) := by decide +kernel
theorem dX1_weigh_116 : decode cX1_weigh 116 = .ok (.aload_n 0, 1) := by decide +kernel
theorem dX1_weigh_117 : decode cX1_weigh 117 = .ok (.aload 5, 2) := by decide +kernel
theorem dX1_weigh_119 : decode cX1_weigh 119 = .ok (.getfield 35, 3) := by decide +kernel
theorem dX1_weigh_122 : decode cX1_weigh 122 = .ok (.aload_n 0, 1) := by decide +kernel
theorem dX1_weigh_123 : decode cX1_weigh 123 = .ok (.getfield 9, 3) := by decide +kernel
theorem dX1_weigh_126 : decode cX1_weigh 126 = .ok (.iload 4, 2) := by decide +kernel
theorem dX1_weigh_128 : decode cX1_weigh 128 = .ok (.iaload, 1) := by decide +kernel
theorem dX1_weigh_129 : decode cX1_weigh 129 = .ok (.aload_n 0, 1) := by decide +kernel
theorem dX1_weigh_130 : decode cX1_weigh 130 = .ok (.getfield 15, 3) := by decide +kernel
theorem dX1_weigh_133 : decode cX1_weigh 133 = .ok (.iload 4, 2) := by decide +kernel
theorem dX1_weigh_135 : decode cX1_weigh 135 = .ok (.iaload, 1) := by decide +kernel
theorem dX1_weigh_136 : decode cX1_weigh 136 = .ok (.invokevirtual 41, 3) := by decide +kernel
theorem dX1_weigh_139 : decode cX1_weigh 139 = .ok (.iinc 4 (-1), 3) := by decide +kernel
theorem dX1_weigh_142 : decode cX1_weigh 142 = .ok (.goto (-94), 3) := by decide +kernel
theorem dX1_weigh_145 : decode cX1_weigh 145 = .ok (.return_, 1) := by decide +kernel
theorem dX1_addToTarget_0 : decode cX1_addToTarget 0 = .ok (.iload_n 1, 1) := by decide +kernel
theorem dX1_addToTarget_1 : decode cX1_addToTarget 1 = .ok (.ifCond .lt 45, 3) := by decide +kernel
theorem dX1_addToTarget_4 : decode cX1_addToTarget 4 = .ok (.iload_n 1, 1) := by decide +kernel
theorem dX1_addToTarget_5 : decode cX1_addToTarget 5 = .ok (.bipush 24, 2) := by decide +kernel
theorem dX1_addToTarget_7 : decode cX1_addToTarget 7 = .ok (.if_icmp .ge 39, 3) := by decide +kernel
theorem dX1_addToTarget_10 : decode cX1_addToTarget 10 = .ok (.aload_n 0, 1) := by decide +kernel
theorem dX1_addToTarget_11 : decode cX1_addToTarget 11 = .ok (.getfield 9, 3) := by decide +kernel
theorem dX1_addToTarget_14 : decode cX1_addToTarget 14 = .ok (.iload_n 1, 1) := by decide +kernel
theorem dX1_addToTarget_15 : decode cX1_addToTarget 15 = .ok (.aload_n 0, 1) := by decide +kernel
theorem dX1_addToTarget_16 : decode cX1_addToTarget 16 = .ok (.getfield 9, 3) := by decide +kernel
theorem dX1_addToTarget_19 : decode cX1_addToTarget 19 = .ok (.iload_n 1, 1) := by decide +kernel
theorem dX1_addToTarget_20 : decode cX1_addToTarget 20 = .ok (.iaload, 1) := by decide +kernel
theorem dX1_addToTarget_21 : decode cX1_addToTarget 21 = .ok (.iload_n 3, 1) := by decide +kernel
theorem dX1_addToTarget_22 : decode cX1_addToTarget 22 = .ok (.invokestatic 45, 3) := by decide +kernel
theorem dX1_addToTarget_25 : decode cX1_addToTarget 25 = .ok (.iastore, 1) := by decide +kernel
theorem dX1_addToTarget_26 : decode cX1_addToTarget 26 = .ok (.aload_n 0, 1) := by decide +kernel
theorem dX1_addToTarget_27 : decode cX1_addToTarget 27 = .ok (.getfield 15, 3) := by decide +kernel
theorem dX1_addToTarget_30 : decode cX1_addToTarget 30 = .ok (.iload_n 1, 1) := by decide +kernel
theorem dX1_addToTarget_31 : decode cX1_addToTarget 31 = .ok (.sipush 1000, 3) := by decide +kernel
theorem dX1_addToTarget_34 : decode cX1_addToTarget 34 = .ok (.aload_n 0, 1) := by decide +kernel
theorem dX1_addToTarget_35 : decode cX1_addToTarget 35 = .ok (.getfield 15, 3) := by decide +kernel
theorem dX1_addToTarget_38 : decode cX1_addToTarget 38 = .ok (.iload_n 1, 1) := by decide +kernel
theorem dX1_addToTarget_39 : decode cX1_addToTarget 39 = .ok (.iaload, 1) := by decide +kernel
theorem dX1_addToTarget_40 : decode cX1_addToTarget 40 = .ok (.iload_n 2, 1) := by decide +kernel
theorem dX1_addToTarget_41 : decode cX1_addToTarget 41 = .ok (.iadd, 1) := by decide +kernel
theorem dX1_addToTarget_42 : decode cX1_addToTarget 42 = .ok (.invokestatic 45, 3) := by decide +kernel
theorem dX1_addToTarget_45 : decode cX1_addToTarget 45 = .ok (.iastore, 1) := by decide +kernel
theorem dX1_addToTarget_46 : decode cX1_addToTarget 46 = .ok (.return_, 1) := by decide +kernel
set_option maxRecDepth 20000 in
theorem ggX1_answersToFall_X1_reachable : GoodIn wsX1_answersToFall wsX1_reachable := goodIn_r _ [5] (by decide +kernel) (by decide +kernel)
set_option maxRecDepth 20000 in
theorem gX1_answersToFall_X1_reachable : GoodIn wsX1_answersToFall (va_wsS RX1 51 yX1_reachable wsX1_reachable) := goodIn_app (goodIn_of _ (by decide +kernel)) ggX1_answersToFall_X1_reachable
theorem dX1_answersToFall_0 : decode cX1_answersToFall 0 = .ok (.iload_n 1, 1) := by decide +kernel
theorem dX1_answersToFall_1 : decode cX1_answersToFall 1 = .ok (.ifCond .lt 18, 3) := by decide +kernel
theorem dX1_answersToFall_4 : decode cX1_answersToFall 4 = .ok (.iload_n 1, 1) := by decide +kernel
theorem dX1_answersToFall_5 : decode cX1_answersToFall 5 = .ok (.bipush 24, 2) := by decide +kernel
theorem dX1_answersToFall_7 : decode cX1_answersToFall 7 = .ok (.if_icmp .ge 12, 3) := by decide +kernel
theorem dX1_answersToFall_10 : decode cX1_answersToFall 10 = .ok (.aload_n 0, 1) := by decide +kernel
theorem dX1_answersToFall_11 : decode cX1_answersToFall 11 = .ok (.getfield 9, 3) := by decide +kernel
theorem dX1_answersToFall_14 : decode cX1_answersToFall 14 = .ok (.iload_n 1, 1) := by decide +kernel
theorem dX1_answersToFall_15 : decode cX1_answersToFall 15 = .ok (.iaload, 1) := by decide +kernel
theorem dX1_answersToFall_16 : decode cX1_answersToFall 16 = .ok (.goto 6, 3) := by decide +kernel
theorem dX1_answersToFall_19 : decode cX1_answersToFall 19 = .ok (.sipush 1000, 3) := by decide +kernel
theorem dX1_answersToFall_22 : decode cX1_answersToFall 22 = .ok (.invokestatic 51, 3) := by decide +kernel
theorem dX1_answersToFall_25 : decode cX1_answersToFall 25 = .ok (.ireturn, 1) := by decide +kernel
set_option maxRecDepth 20000 in
theorem ggX1_answersToStand_X1_reachable : GoodIn wsX1_answersToStand wsX1_reachable := goodIn_r _ [5] (by decide +kernel) (by decide +kernel)
set_option maxRecDepth 20000 in
theorem gX1_answersToStand_X1_reachable : GoodIn wsX1_answersToStand (va_wsS RX1 51 yX1_reachable wsX1_reachable) := goodIn_app (goodIn_of _ (by decide +kernel)) ggX1_answersToStand_X1_reachable
theorem dX1_answersToStand_0 : decode cX1_answersToStand 0 = .ok (.iload_n 1, 1) := by decide +kernel
theorem dX1_answersToStand_1 : decode cX1_answersToStand 1 = .ok (.ifCond .lt 18, 3) := by decide +kernel
theorem dX1_answersToStand_4 : decode cX1_answersToStand 4 = .ok (.iload_n 1, 1) := by decide +kernel
theorem dX1_answersToStand_5 : decode cX1_answersToStand 5 = .ok (.bipush 24, 2) := by decide +kernel
theorem dX1_answersToStand_7 : decode cX1_answersToStand 7 = .ok (.if_icmp .ge 12, 3) := by decide +kernel
theorem dX1_answersToStand_10 : decode cX1_answersToStand 10 = .ok (.aload_n 0, 1) := by decide +kernel
theorem dX1_answersToStand_11 : decode cX1_answersToStand 11 = .ok (.getfield 15, 3) := by decide +kernel
theorem dX1_answersToStand_14 : decode cX1_answersToStand 14 = .ok (.iload_n 1, 1) := by decide +kernel
theorem dX1_answersToStand_15 : decode cX1_answersToStand 15 = .ok (.iaload, 1) := by decide +kernel
theorem dX1_answersToStand_16 : decode cX1_answersToStand 16 = .ok (.goto 6, 3) := by decide +kernel
theorem dX1_answersToStand_19 : decode cX1_answersToStand 19 = .ok (.sipush 1000, 3) := by decide +kernel
theorem dX1_answersToStand_22 : decode cX1_answersToStand 22 = .ok (.invokestatic 51, 3) := by decide +kernel
theorem dX1_answersToStand_25 : decode cX1_answersToStand 25 = .ok (.ireturn, 1) := by decide +kernel
theorem dX1_reachable_0 : decode cX1_reachable 0 = .ok (.iload_n 0, 1) := by decide +kernel
theorem dX1_reachable_1 : decode cX1_reachable 1 = .ok (.sipush 1000, 3) := by decide +kernel
theorem dX1_reachable_4 : decode cX1_reachable 4 = .ok (.if_icmp .lt 8, 3) := by decide +kernel
theorem dX1_reachable_7 : decode cX1_reachable 7 = .ok (.bipush (-6), 2) := by decide +kernel
theorem dX1_reachable_9 : decode cX1_reachable 9 = .ok (.goto 4, 3) := by decide +kernel
theorem dX1_reachable_12 : decode cX1_reachable 12 = .ok (.iload_n 0, 1) := by decide +kernel
theorem dX1_reachable_13 : decode cX1_reachable 13 = .ok (.ireturn, 1) := by decide +kernel
set_option maxRecDepth 20000 in
theorem ggX2_init_X0_init : GoodIn wsX2_init wsX0_init := goodIn_r _ [9, 10, 2, 3, 11, 12, 13, 14, 15, 16, 17, 18, 19, 22, 23, 24, 25, 26, 27, 28, 29, 30, 31, 32, 33, 34] (by decide +kernel) (by decide +kernel)
set_option maxRecDepth 20000 in
theorem gX2_init_X0_init_n17 : GoodIn wsX2_init (wsX0_init) := ggX2_init_X0_init
theorem dX2_init_0 : decode cX2_init 0 = .ok (.aload_n 0, 1) := by decide +kernel
theorem dX2_init_1 : decode cX2_init 1 = .ok (.invokespecial 3, 3) := by decide +kernel
theorem dX2_init_4 : decode cX2_init 4 = .ok (.aload_n 0, 1) := by decide +kernel
theorem dX2_init_5 : decode cX2_init 5 = .ok (.bipush 7, 2) := by decide +kernel
theorem dX2_init_7 : decode cX2_init 7 = .ok (.anewarray 9, 3) := by decide +kernel
theorem dX2_init_10 : decode cX2_init 10 = .ok (.putfield 11, 3) := by decide +kernel
theorem dX2_init_13 : decode cX2_init 13 = .ok (.iconst 0, 1) := by decide +kernel
theorem dX2_init_14 : decode cX2_init 14 = .ok (.istore_n 1, 1) := by decide +kernel
theorem dX2_init_15 : decode cX2_init 15 = .ok (.iload_n 1, 1) := by decide +kernel
theorem dX2_init_16 : decode cX2_init 16 = .ok (.aload_n 0, 1) := by decide +kernel
theorem dX2_init_17 : decode cX2_init 17 = .ok (.getfield 11, 3) := by decide +kernel
theorem dX2_init_20 : decode cX2_init 20 = .ok (.arraylength, 1) := by decide +kernel
theorem dX2_init_21 : decode cX2_init 21 = .ok (.if_icmp .ge 22, 3) := by decide +kernel
theorem dX2_init_24 : decode cX2_init 24 = .ok (.aload_n 0, 1) := by decide +kernel
theorem dX2_init_25 : decode cX2_init 25 = .ok (.getfield 11, 3) := by decide +kernel
theorem dX2_init_28 : decode cX2_init 28 = .ok (.iload_n 1, 1) := by decide +kernel
theorem dX2_init_29 : decode cX2_init 29 = .ok (.new 9, 3) := by decide +kernel
theorem dX2_init_32 : decode cX2_init 32 = .ok (.dup, 1) := by decide +kernel
theorem dX2_init_33 : decode cX2_init 33 = .ok (.invokespecial 17, 3) := by decide +kernel
theorem dX2_init_36 : decode cX2_init 36 = .ok (.aastore, 1) := by decide +kernel
theorem dX2_init_37 : decode cX2_init 37 = .ok (.iinc 1 1, 3) := by decide +kernel
theorem dX2_init_40 : decode cX2_init 40 = .ok (.goto (-25), 3) := by decide +kernel
theorem dX2_init_43 : decode cX2_init 43 = .ok (.return_, 1) := by decide +kernel
theorem dX2_rowAt_0 : decode cX2_rowAt 0 = .ok (.iload_n 1, 1) := by decide +kernel
theorem dX2_rowAt_1 : decode cX2_rowAt 1 = .ok (.ifCond .lt 21, 3) := by decide +kernel
theorem dX2_rowAt_4 : decode cX2_rowAt 4 = .ok (.iload_n 1, 1) := by decide +kernel
theorem dX2_rowAt_5 : decode cX2_rowAt 5 = .ok (.aload_n 0, 1) := by decide +kernel
theorem dX2_rowAt_6 : decode cX2_rowAt 6 = .ok (.getfield 11, 3) := by decide +kernel
theorem dX2_rowAt_9 : decode cX2_rowAt 9 = .ok (.arraylength, 1) := by decide +kernel
theorem dX2_rowAt_10 : decode cX2_rowAt 10 = .ok (.if_icmp .ge 12, 3) := by decide +kernel
theorem dX2_rowAt_13 : decode cX2_rowAt 13 = .ok (.aload_n 0, 1) := by decide +kernel
theorem dX2_rowAt_14 : decode cX2_rowAt 14 = .ok (.getfield 11, 3) := by decide +kernel
theorem dX2_rowAt_17 : decode cX2_rowAt 17 = .ok (.iload_n 1, 1) := by decide +kernel
theorem dX2_rowAt_18 : decode cX2_rowAt 18 = .ok (.aaload, 1) := by decide +kernel
theorem dX2_rowAt_19 : decode cX2_rowAt 19 = .ok (.goto 4, 3) := by decide +kernel
theorem dX2_rowAt_22 : decode cX2_rowAt 22 = .ok (.aconst_null, 1) := by decide +kernel
theorem dX2_rowAt_23 : decode cX2_rowAt 23 = .ok (.areturn, 1) := by decide +kernel
set_option maxRecDepth 20000 in
theorem ggX2_prepare_X2_rowAt : GoodIn wsX2_prepare wsX2_rowAt := goodIn_r _ [6, 7, 33, 34] (by decide +kernel) (by decide +kernel)
set_option maxRecDepth 20000 in
theorem gX2_prepare_X2_rowAt : GoodIn wsX2_prepare (wsV RX2 22 RX2 yX2_rowAt wsX2_rowAt) := goodIn_app (goodIn_of _ (by decide +kernel)) ggX2_prepare_X2_rowAt
set_option maxRecDepth 20000 in
theorem ggX2_prepare_X0_become : GoodIn wsX2_prepare wsX0_become := goodIn_r _ [11, 12, 13, 14, 15, 16, 17, 18, 19, 20, 9, 21, 22, 23, 24, 25, 26, 27, 28, 29, 30, 31, 32, 35, 36, 37, 38, 39, 40, 41, 42, 43, 44, 45, 46, 47] (by decide +kernel) (by decide +kernel)
set_option maxRecDepth 20000 in
theorem gX2_prepare_X0_become_n26 : GoodIn wsX2_prepare (wsX0_become) := ggX2_prepare_X0_become
theorem dX2_prepare_0 : decode cX2_prepare 0 = .ok (.aload_n 0, 1) := by decide +kernel
theorem dX2_prepare_1 : decode cX2_prepare 1 = .ok (.aload_n 0, 1) := by decide +kernel
theorem dX2_prepare_2 : decode cX2_prepare 2 = .ok (.getfield 18, 3) := by decide +kernel
theorem dX2_prepare_5 : decode cX2_prepare 5 = .ok (.invokevirtual 22, 3) := by decide +kernel
theorem dX2_prepare_8 : decode cX2_prepare 8 = .ok (.astore_n 2, 1) := by decide +kernel
theorem dX2_prepare_9 : decode cX2_prepare 9 = .ok (.aload_n 2, 1) := by decide +kernel
theorem dX2_prepare_10 : decode cX2_prepare 10 = .ok (.ifnull 8, 3) := by decide +kernel
theorem dX2_prepare_13 : decode cX2_prepare 13 = .ok (.aload_n 2, 1) := by decide +kernel
theorem dX2_prepare_14 : decode cX2_prepare 14 = .ok (.aload_n 1, 1) := by decide +kernel
theorem dX2_prepare_15 : decode cX2_prepare 15 = .ok (.invokevirtual 26, 3) := by decide +kernel
theorem dX2_prepare_18 : decode cX2_prepare 18 = .ok (.return_, 1) := by decide +kernel
set_option maxRecDepth 20000 in
theorem ggX2_settle_X2_dropOldest : GoodIn wsX2_settle wsX2_dropOldest := goodIn_r _ [6, 7, 8, 9, 10, 5, 11, 12, 13] (by decide +kernel) (by decide +kernel)
set_option maxRecDepth 20000 in
theorem gX2_settle_X2_dropOldest : GoodIn wsX2_settle (wsV RX2 30 RX2 yX2_dropOldest wsX2_dropOldest) := goodIn_app (goodIn_of _ (by decide +kernel)) ggX2_settle_X2_dropOldest
theorem dX2_settle_0 : decode cX2_settle 0 = .ok (.iload_n 1, 1) := by decide +kernel
theorem dX2_settle_1 : decode cX2_settle 1 = .ok (.ifCond .lt 29, 3) := by decide +kernel
theorem dX2_settle_4 : decode cX2_settle 4 = .ok (.aload_n 0, 1) := by decide +kernel
theorem dX2_settle_5 : decode cX2_settle 5 = .ok (.getfield 18, 3) := by decide +kernel
theorem dX2_settle_8 : decode cX2_settle 8 = .ok (.bipush 6, 2) := by decide +kernel
theorem dX2_settle_10 : decode cX2_settle 10 = .ok (.if_icmp .ge 16, 3) := by decide +kernel
theorem dX2_settle_13 : decode cX2_settle 13 = .ok (.aload_n 0, 1) := by decide +kernel
theorem dX2_settle_14 : decode cX2_settle 14 = .ok (.dup, 1) := by decide +kernel
theorem dX2_settle_15 : decode cX2_settle 15 = .ok (.getfield 18, 3) := by decide +kernel
theorem dX2_settle_18 : decode cX2_settle 18 = .ok (.iconst 1, 1) := by decide +kernel
theorem dX2_settle_19 : decode cX2_settle 19 = .ok (.iadd, 1) := by decide +kernel
theorem dX2_settle_20 : decode cX2_settle 20 = .ok (.putfield 18, 3) := by decide +kernel
theorem dX2_settle_23 : decode cX2_settle 23 = .ok (.goto 7, 3) := by decide +kernel
theorem dX2_settle_26 : decode cX2_settle 26 = .ok (.aload_n 0, 1) := by decide +kernel
theorem dX2_settle_27 : decode cX2_settle 27 = .ok (.invokevirtual 30, 3) := by decide +kernel
theorem dX2_settle_30 : decode cX2_settle 30 = .ok (.iload_n 1, 1) := by decide +kernel
theorem dX2_settle_31 : decode cX2_settle 31 = .ok (.ireturn, 1) := by decide +kernel
set_option maxRecDepth 20000 in
theorem ggX2_dropOldest_X2_rowAt : GoodIn wsX2_dropOldest wsX2_rowAt := goodIn_r _ [6, 1, 7, 8] (by decide +kernel) (by decide +kernel)
set_option maxRecDepth 20000 in
theorem gX2_dropOldest_X2_rowAt : GoodIn wsX2_dropOldest (wsV RX2 22 RX2 yX2_rowAt wsX2_rowAt) := goodIn_app (goodIn_of _ (by decide +kernel)) ggX2_dropOldest_X2_rowAt
theorem dX2_dropOldest_0 : decode cX2_dropOldest 0 = .ok (.aload_n 0, 1) := by decide +kernel
theorem dX2_dropOldest_1 : decode cX2_dropOldest 1 = .ok (.iconst 0, 1) := by decide +kernel
theorem dX2_dropOldest_2 : decode cX2_dropOldest 2 = .ok (.invokevirtual 22, 3) := by decide +kernel
theorem dX2_dropOldest_5 : decode cX2_dropOldest 5 = .ok (.astore_n 1, 1) := by decide +kernel
theorem dX2_dropOldest_6 : decode cX2_dropOldest 6 = .ok (.iconst 0, 1) := by decide +kernel
theorem dX2_dropOldest_7 : decode cX2_dropOldest 7 = .ok (.istore_n 2, 1) := by decide +kernel
theorem dX2_dropOldest_8 : decode cX2_dropOldest 8 = .ok (.iload_n 2, 1) := by decide +kernel
theorem dX2_dropOldest_9 : decode cX2_dropOldest 9 = .ok (.bipush 6, 2) := by decide +kernel
theorem dX2_dropOldest_11 : decode cX2_dropOldest 11 = .ok (.if_icmp .ge 23, 3) := by decide +kernel
theorem dX2_dropOldest_14 : decode cX2_dropOldest 14 = .ok (.aload_n 0, 1) := by decide +kernel
theorem dX2_dropOldest_15 : decode cX2_dropOldest 15 = .ok (.getfield 11, 3) := by decide +kernel
theorem dX2_dropOldest_18 : decode cX2_dropOldest 18 = .ok (.iload_n 2, 1) := by decide +kernel
theorem dX2_dropOldest_19 : decode cX2_dropOldest 19 = .ok (.aload_n 0, 1) := by decide +kernel
theorem dX2_dropOldest_20 : decode cX2_dropOldest 20 = .ok (.getfield 11, 3) := by decide +kernel
theorem dX2_dropOldest_23 : decode cX2_dropOldest 23 = .ok (.iload_n 2, 1) := by decide +kernel
theorem dX2_dropOldest_24 : decode cX2_dropOldest 24 = .ok (.iconst 1, 1) := by decide +kernel
theorem dX2_dropOldest_25 : decode cX2_dropOldest 25 = .ok (.iadd, 1) := by decide +kernel
theorem dX2_dropOldest_26 : decode cX2_dropOldest 26 = .ok (.aaload, 1) := by decide +kernel
theorem dX2_dropOldest_27 : decode cX2_dropOldest 27 = .ok (.aastore, 1) := by decide +kernel
theorem dX2_dropOldest_28 : decode cX2_dropOldest 28 = .ok (.iinc 2 1, 3) := by decide +kernel
theorem dX2_dropOldest_31 : decode cX2_dropOldest 31 = .ok (.goto (-23), 3) := by decide +kernel
theorem dX2_dropOldest_34 : decode cX2_dropOldest 34 = .ok (.aload_n 0, 1) := by decide +kernel
theorem dX2_dropOldest_35 : decode cX2_dropOldest 35 = .ok (.getfield 11, 3) := by decide +kernel
theorem dX2_dropOldest_38 : decode cX2_dropOldest 38 = .ok (.bipush 6, 2) := by decide +kernel
theorem dX2_dropOldest_40 : decode cX2_dropOldest 40 = .ok (.aload_n 1, 1) := by decide +kernel
theorem dX2_dropOldest_41 : decode cX2_dropOldest 41 = .ok (.aastore, 1) := by decide +kernel
theorem dX2_dropOldest_42 : decode cX2_dropOldest 42 = .ok (.return_, 1) := by decide +kernel
set_option maxRecDepth 20000 in
theorem ggX2_bringBack_X2_rowAt : GoodIn wsX2_bringBack wsX2_rowAt := goodIn_r _ [6, 7, 33, 34] (by decide +kernel) (by decide +kernel)
set_option maxRecDepth 20000 in
theorem gX2_bringBack_X2_rowAt : GoodIn wsX2_bringBack (wsV RX2 22 RX2 yX2_rowAt wsX2_rowAt) := goodIn_app (goodIn_of _ (by decide +kernel)) ggX2_bringBack_X2_rowAt
set_option maxRecDepth 20000 in
theorem ggX2_bringBack_X0_become : GoodIn wsX2_bringBack wsX0_become := goodIn_r _ [11, 12, 13, 14, 15, 16, 17, 18, 19, 20, 9, 21, 22, 23, 24, 25, 26, 27, 28, 29, 30, 31, 32, 35, 36, 37, 38, 39, 40, 41, 42, 43, 44, 45, 46, 47] (by decide +kernel) (by decide +kernel)
set_option maxRecDepth 20000 in
theorem gX2_bringBack_X0_become_n26 : GoodIn wsX2_bringBack (wsX0_become) := ggX2_bringBack_X0_become
theorem dX2_bringBack_0 : decode cX2_bringBack 0 = .ok (.aload_n 0, 1) := by decide +kernel
theorem dX2_bringBack_1 : decode cX2_bringBack 1 = .ok (.aload_n 0, 1) := by decide +kernel
theorem dX2_bringBack_2 : decode cX2_bringBack 2 = .ok (.getfield 18, 3) := by decide +kernel
theorem dX2_bringBack_5 : decode cX2_bringBack 5 = .ok (.iconst 1, 1) := by decide +kernel
theorem dX2_bringBack_6 : decode cX2_bringBack 6 = .ok (.isub, 1) := by decide +kernel
theorem dX2_bringBack_7 : decode cX2_bringBack 7 = .ok (.invokevirtual 22, 3) := by decide +kernel
theorem dX2_bringBack_10 : decode cX2_bringBack 10 = .ok (.astore_n 2, 1) := by decide +kernel
theorem dX2_bringBack_11 : decode cX2_bringBack 11 = .ok (.aload_n 2, 1) := by decide +kernel
theorem dX2_bringBack_12 : decode cX2_bringBack 12 = .ok (.ifnonnull 6, 3) := by decide +kernel
theorem dX2_bringBack_15 : decode cX2_bringBack 15 = .ok (.bipush (-5), 2) := by decide +kernel
theorem dX2_bringBack_17 : decode cX2_bringBack 17 = .ok (.ireturn, 1) := by decide +kernel
theorem dX2_bringBack_18 : decode cX2_bringBack 18 = .ok (.aload_n 1, 1) := by decide +kernel
theorem dX2_bringBack_19 : decode cX2_bringBack 19 = .ok (.aload_n 2, 1) := by decide +kernel
theorem dX2_bringBack_20 : decode cX2_bringBack 20 = .ok (.invokevirtual 26, 3) := by decide +kernel
theorem dX2_bringBack_23 : decode cX2_bringBack 23 = .ok (.aload_n 0, 1) := by decide +kernel
theorem dX2_bringBack_24 : decode cX2_bringBack 24 = .ok (.dup, 1) := by decide +kernel
theorem dX2_bringBack_25 : decode cX2_bringBack 25 = .ok (.getfield 18, 3) := by decide +kernel
theorem dX2_bringBack_28 : decode cX2_bringBack 28 = .ok (.iconst 1, 1) := by decide +kernel
theorem dX2_bringBack_29 : decode cX2_bringBack 29 = .ok (.isub, 1) := by decide +kernel
theorem dX2_bringBack_30 : decode cX2_bringBack 30 = .ok (.putfield 18, 3) := by decide +kernel
theorem dX2_bringBack_33 : decode cX2_bringBack 33 = .ok (.aload_n 0, 1) := by decide +kernel
theorem dX2_bringBack_34 : decode cX2_bringBack 34 = .ok (.getfield 18, 3) := by decide +kernel
theorem dX2_bringBack_37 : decode cX2_bringBack 37 = .ok (.ireturn, 1) := by decide +kernel
theorem dX3_init_0 : decode cX3_init 0 = .ok (.aload_n 0, 1) := by decide +kernel
theorem dX3_init_1 : decode cX3_init 1 = .ok (.invokespecial 3, 3) := by decide +kernel
theorem dX3_init_4 : decode cX3_init 4 = .ok (.aload_n 0, 1) := by decide +kernel
theorem dX3_init_5 : decode cX3_init 5 = .ok (.bipush 80, 2) := by decide +kernel
theorem dX3_init_7 : decode cX3_init 7 = .ok (.newarray .char, 2) := by decide +kernel
theorem dX3_init_9 : decode cX3_init 9 = .ok (.putfield 9, 3) := by decide +kernel
theorem dX3_init_12 : decode cX3_init 12 = .ok (.return_, 1) := by decide +kernel
theorem dX3_empty_0 : decode cX3_empty 0 = .ok (.aload_n 0, 1) := by decide +kernel
theorem dX3_empty_1 : decode cX3_empty 1 = .ok (.getfield 15, 3) := by decide +kernel
theorem dX3_empty_4 : decode cX3_empty 4 = .ok (.istore_n 1, 1) := by decide +kernel
theorem dX3_empty_5 : decode cX3_empty 5 = .ok (.aload_n 0, 1) := by decide +kernel
theorem dX3_empty_6 : decode cX3_empty 6 = .ok (.iconst 0, 1) := by decide +kernel
theorem dX3_empty_7 : decode cX3_empty 7 = .ok (.putfield 15, 3) := by decide +kernel
theorem dX3_empty_10 : decode cX3_empty 10 = .ok (.iload_n 1, 1) := by decide +kernel
theorem dX3_empty_11 : decode cX3_empty 11 = .ok (.ireturn, 1) := by decide +kernel
set_option maxRecDepth 20000 in
theorem ggX3_signsIn_X3_signOf : GoodIn wsX3_signsIn wsX3_signOf := goodIn_r _ [4, 5] (by decide +kernel) (by decide +kernel)
set_option maxRecDepth 20000 in
theorem gX3_signsIn_X3_signOf : GoodIn wsX3_signsIn (va_wsS RX3 19 yX3_signOf wsX3_signOf) := goodIn_app (goodIn_of _ (by decide +kernel)) ggX3_signsIn_X3_signOf
theorem dX3_signsIn_0 : decode cX3_signsIn 0 = .ok (.iconst 0, 1) := by decide +kernel
theorem dX3_signsIn_1 : decode cX3_signsIn 1 = .ok (.istore_n 2, 1) := by decide +kernel
theorem dX3_signsIn_2 : decode cX3_signsIn 2 = .ok (.iload_n 2, 1) := by decide +kernel
theorem dX3_signsIn_3 : decode cX3_signsIn 3 = .ok (.bipush 8, 2) := by decide +kernel
theorem dX3_signsIn_5 : decode cX3_signsIn 5 = .ok (.if_icmp .ge 37, 3) := by decide +kernel
theorem dX3_signsIn_8 : decode cX3_signsIn 8 = .ok (.lload_n 0, 1) := by decide +kernel
theorem dX3_signsIn_9 : decode cX3_signsIn 9 = .ok (.iload_n 2, 1) := by decide +kernel
theorem dX3_signsIn_10 : decode cX3_signsIn 10 = .ok (.invokestatic 19, 3) := by decide +kernel
theorem dX3_signsIn_13 : decode cX3_signsIn 13 = .ok (.ifCond .eq 29, 3) := by decide +kernel
theorem dX3_signsIn_16 : decode cX3_signsIn 16 = .ok (.lload_n 0, 1) := by decide +kernel
theorem dX3_signsIn_17 : decode cX3_signsIn 17 = .ok (.iload_n 2, 1) := by decide +kernel
theorem dX3_signsIn_18 : decode cX3_signsIn 18 = .ok (.invokestatic 19, 3) := by decide +kernel
theorem dX3_signsIn_21 : decode cX3_signsIn 21 = .ok (.istore_n 3, 1) := by decide +kernel
theorem dX3_signsIn_22 : decode cX3_signsIn 22 = .ok (.iload_n 3, 1) := by decide +kernel
theorem dX3_signsIn_23 : decode cX3_signsIn 23 = .ok (.bipush 33, 2) := by decide +kernel
theorem dX3_signsIn_25 : decode cX3_signsIn 25 = .ok (.if_icmp .lt 9, 3) := by decide +kernel
theorem dX3_signsIn_28 : decode cX3_signsIn 28 = .ok (.iload_n 3, 1) := by decide +kernel
theorem dX3_signsIn_29 : decode cX3_signsIn 29 = .ok (.bipush 126, 2) := by decide +kernel
theorem dX3_signsIn_31 : decode cX3_signsIn 31 = .ok (.if_icmp .le 5, 3) := by decide +kernel
theorem dX3_signsIn_34 : decode cX3_signsIn 34 = .ok (.iconst 0, 1) := by decide +kernel
theorem dX3_signsIn_35 : decode cX3_signsIn 35 = .ok (.ireturn, 1) := by decide +kernel
theorem dX3_signsIn_36 : decode cX3_signsIn 36 = .ok (.iinc 2 1, 3) := by decide +kernel
theorem dX3_signsIn_39 : decode cX3_signsIn 39 = .ok (.goto (-37), 3) := by decide +kernel
theorem dX3_signsIn_42 : decode cX3_signsIn 42 = .ok (.iload_n 2, 1) := by decide +kernel
theorem dX3_signsIn_43 : decode cX3_signsIn 43 = .ok (.bipush 8, 2) := by decide +kernel
theorem dX3_signsIn_45 : decode cX3_signsIn 45 = .ok (.if_icmp .ge 18, 3) := by decide +kernel
theorem dX3_signsIn_48 : decode cX3_signsIn 48 = .ok (.lload_n 0, 1) := by decide +kernel
theorem dX3_signsIn_49 : decode cX3_signsIn 49 = .ok (.bipush 8, 2) := by decide +kernel
theorem dX3_signsIn_51 : decode cX3_signsIn 51 = .ok (.iload_n 2, 1) := by decide +kernel
theorem dX3_signsIn_52 : decode cX3_signsIn 52 = .ok (.imul, 1) := by decide +kernel
theorem dX3_signsIn_53 : decode cX3_signsIn 53 = .ok (.lushr, 1) := by decide +kernel
theorem dX3_signsIn_54 : decode cX3_signsIn 54 = .ok (.lconst 0, 1) := by decide +kernel
theorem dX3_signsIn_55 : decode cX3_signsIn 55 = .ok (.lcmp, 1) := by decide +kernel
theorem dX3_signsIn_56 : decode cX3_signsIn 56 = .ok (.ifCond .eq 7, 3) := by decide +kernel
theorem dX3_signsIn_59 : decode cX3_signsIn 59 = .ok (.iconst 1, 1) := by decide +kernel
theorem dX3_signsIn_60 : decode cX3_signsIn 60 = .ok (.goto 4, 3) := by decide +kernel
theorem dX3_signsIn_63 : decode cX3_signsIn 63 = .ok (.iconst 0, 1) := by decide +kernel
theorem dX3_signsIn_64 : decode cX3_signsIn 64 = .ok (.istore_n 3, 1) := by decide +kernel
theorem dX3_signsIn_65 : decode cX3_signsIn 65 = .ok (.iload_n 3, 1) := by decide +kernel
theorem dX3_signsIn_66 : decode cX3_signsIn 66 = .ok (.ifCond .eq 7, 3) := by decide +kernel
theorem dX3_signsIn_69 : decode cX3_signsIn 69 = .ok (.iconst 0, 1) := by decide +kernel
theorem dX3_signsIn_70 : decode cX3_signsIn 70 = .ok (.goto 4, 3) := by decide +kernel
theorem dX3_signsIn_73 : decode cX3_signsIn 73 = .ok (.iload_n 2, 1) := by decide +kernel
theorem dX3_signsIn_74 : decode cX3_signsIn 74 = .ok (.ireturn, 1) := by decide +kernel
theorem dX3_signOf_0 : decode cX3_signOf 0 = .ok (.lload_n 0, 1) := by decide +kernel
theorem dX3_signOf_1 : decode cX3_signOf 1 = .ok (.bipush 8, 2) := by decide +kernel
theorem dX3_signOf_3 : decode cX3_signOf 3 = .ok (.iload_n 2, 1) := by decide +kernel
theorem dX3_signOf_4 : decode cX3_signOf 4 = .ok (.imul, 1) := by decide +kernel
theorem dX3_signOf_5 : decode cX3_signOf 5 = .ok (.lushr, 1) := by decide +kernel
theorem dX3_signOf_6 : decode cX3_signOf 6 = .ok (.ldc2_w 23, 3) := by decide +kernel
theorem dX3_signOf_9 : decode cX3_signOf 9 = .ok (.land, 1) := by decide +kernel
theorem dX3_signOf_10 : decode cX3_signOf 10 = .ok (.l2i, 1) := by decide +kernel
theorem dX3_signOf_11 : decode cX3_signOf 11 = .ok (.i2c, 1) := by decide +kernel
theorem dX3_signOf_12 : decode cX3_signOf 12 = .ok (.ireturn, 1) := by decide +kernel
theorem dX3_append_0 : decode cX3_append 0 = .ok (.aload_n 0, 1) := by decide +kernel
theorem dX3_append_1 : decode cX3_append 1 = .ok (.getfield 15, 3) := by decide +kernel
theorem dX3_append_4 : decode cX3_append 4 = .ok (.ifCond .lt 32, 3) := by decide +kernel
theorem dX3_append_7 : decode cX3_append 7 = .ok (.aload_n 0, 1) := by decide +kernel
theorem dX3_append_8 : decode cX3_append 8 = .ok (.getfield 15, 3) := by decide +kernel
theorem dX3_append_11 : decode cX3_append 11 = .ok (.bipush 80, 2) := by decide +kernel
theorem dX3_append_13 : decode cX3_append 13 = .ok (.if_icmp .ge 23, 3) := by decide +kernel
theorem dX3_append_16 : decode cX3_append 16 = .ok (.aload_n 0, 1) := by decide +kernel
theorem dX3_append_17 : decode cX3_append 17 = .ok (.getfield 9, 3) := by decide +kernel
theorem dX3_append_20 : decode cX3_append 20 = .ok (.aload_n 0, 1) := by decide +kernel
theorem dX3_append_21 : decode cX3_append 21 = .ok (.getfield 15, 3) := by decide +kernel
theorem dX3_append_24 : decode cX3_append 24 = .ok (.iload_n 1, 1) := by decide +kernel
theorem dX3_append_25 : decode cX3_append 25 = .ok (.castore, 1) := by decide +kernel
theorem dX3_append_26 : decode cX3_append 26 = .ok (.aload_n 0, 1) := by decide +kernel
theorem dX3_append_27 : decode cX3_append 27 = .ok (.dup, 1) := by decide +kernel
theorem dX3_append_28 : decode cX3_append 28 = .ok (.getfield 15, 3) := by decide +kernel
theorem dX3_append_31 : decode cX3_append 31 = .ok (.iconst 1, 1) := by decide +kernel
theorem dX3_append_32 : decode cX3_append 32 = .ok (.iadd, 1) := by decide +kernel
theorem dX3_append_33 : decode cX3_append 33 = .ok (.putfield 15, 3) := by decide +kernel
theorem dX3_append_36 : decode cX3_append 36 = .ok (.return_, 1) := by decide +kernel
theorem dX3_signAt_0 : decode cX3_signAt 0 = .ok (.iload_n 1, 1) := by decide +kernel
theorem dX3_signAt_1 : decode cX3_signAt 1 = .ok (.ifCond .lt 26, 3) := by decide +kernel
theorem dX3_signAt_4 : decode cX3_signAt 4 = .ok (.iload_n 1, 1) := by decide +kernel
theorem dX3_signAt_5 : decode cX3_signAt 5 = .ok (.aload_n 0, 1) := by decide +kernel
theorem dX3_signAt_6 : decode cX3_signAt 6 = .ok (.getfield 15, 3) := by decide +kernel
theorem dX3_signAt_9 : decode cX3_signAt 9 = .ok (.if_icmp .ge 18, 3) := by decide +kernel
theorem dX3_signAt_12 : decode cX3_signAt 12 = .ok (.iload_n 1, 1) := by decide +kernel
theorem dX3_signAt_13 : decode cX3_signAt 13 = .ok (.bipush 80, 2) := by decide +kernel
theorem dX3_signAt_15 : decode cX3_signAt 15 = .ok (.if_icmp .ge 12, 3) := by decide +kernel
theorem dX3_signAt_18 : decode cX3_signAt 18 = .ok (.aload_n 0, 1) := by decide +kernel
theorem dX3_signAt_19 : decode cX3_signAt 19 = .ok (.getfield 9, 3) := by decide +kernel
theorem dX3_signAt_22 : decode cX3_signAt 22 = .ok (.iload_n 1, 1) := by decide +kernel
theorem dX3_signAt_23 : decode cX3_signAt 23 = .ok (.caload, 1) := by decide +kernel
theorem dX3_signAt_24 : decode cX3_signAt 24 = .ok (.goto 4, 3) := by decide +kernel
theorem dX3_signAt_27 : decode cX3_signAt 27 = .ok (.iconst 0, 1) := by decide +kernel
theorem dX3_signAt_28 : decode cX3_signAt 28 = .ok (.ireturn, 1) := by decide +kernel
theorem dX4_init_0 : decode cX4_init 0 = .ok (.aload_n 0, 1) := by decide +kernel
theorem dX4_init_1 : decode cX4_init 1 = .ok (.invokespecial 1, 3) := by decide +kernel
theorem dX4_init_4 : decode cX4_init 4 = .ok (.return_, 1) := by decide +kernel
theorem dX4_become_0 : decode cX4_become 0 = .ok (.aload_n 0, 1) := by decide +kernel
theorem dX4_become_1 : decode cX4_become 1 = .ok (.aload_n 1, 1) := by decide +kernel
theorem dX4_become_2 : decode cX4_become 2 = .ok (.getfield 7, 3) := by decide +kernel
theorem dX4_become_5 : decode cX4_become 5 = .ok (.putfield 7, 3) := by decide +kernel
theorem dX4_become_8 : decode cX4_become 8 = .ok (.aload_n 0, 1) := by decide +kernel
theorem dX4_become_9 : decode cX4_become 9 = .ok (.aload_n 1, 1) := by decide +kernel
theorem dX4_become_10 : decode cX4_become 10 = .ok (.getfield 13, 3) := by decide +kernel
theorem dX4_become_13 : decode cX4_become 13 = .ok (.putfield 13, 3) := by decide +kernel
theorem dX4_become_16 : decode cX4_become 16 = .ok (.aload_n 0, 1) := by decide +kernel
theorem dX4_become_17 : decode cX4_become 17 = .ok (.aload_n 1, 1) := by decide +kernel
theorem dX4_become_18 : decode cX4_become 18 = .ok (.getfield 16, 3) := by decide +kernel
theorem dX4_become_21 : decode cX4_become 21 = .ok (.putfield 16, 3) := by decide +kernel
theorem dX4_become_24 : decode cX4_become 24 = .ok (.aload_n 0, 1) := by decide +kernel
theorem dX4_become_25 : decode cX4_become 25 = .ok (.aload_n 1, 1) := by decide +kernel
theorem dX4_become_26 : decode cX4_become 26 = .ok (.getfield 19, 3) := by decide +kernel
theorem dX4_become_29 : decode cX4_become 29 = .ok (.putfield 19, 3) := by decide +kernel
theorem dX4_become_32 : decode cX4_become 32 = .ok (.aload_n 0, 1) := by decide +kernel
theorem dX4_become_33 : decode cX4_become 33 = .ok (.aload_n 1, 1) := by decide +kernel
theorem dX4_become_34 : decode cX4_become 34 = .ok (.getfield 22, 3) := by decide +kernel
theorem dX4_become_37 : decode cX4_become 37 = .ok (.putfield 22, 3) := by decide +kernel
theorem dX4_become_40 : decode cX4_become 40 = .ok (.aload_n 0, 1) := by decide +kernel
theorem dX4_become_41 : decode cX4_become 41 = .ok (.aload_n 1, 1) := by decide +kernel
theorem dX4_become_42 : decode cX4_become 42 = .ok (.getfield 25, 3) := by decide +kernel
theorem dX4_become_45 : decode cX4_become 45 = .ok (.putfield 25, 3) := by decide +kernel
theorem dX4_become_48 : decode cX4_become 48 = .ok (.aload_n 0, 1) := by decide +kernel
theorem dX4_become_49 : decode cX4_become 49 = .ok (.aload_n 1, 1) := by decide +kernel
theorem dX4_become_50 : decode cX4_become 50 = .ok (.getfield 28, 3) := by decide +kernel
theorem dX4_become_53 : decode cX4_become 53 = .ok (.putfield 28, 3) := by decide +kernel
theorem dX4_become_56 : decode cX4_become 56 = .ok (.return_, 1) := by decide +kernel
theorem dX5_init_0 : decode cX5_init 0 = .ok (.aload_n 0, 1) := by decide +kernel
theorem dX5_init_1 : decode cX5_init 1 = .ok (.invokespecial 3, 3) := by decide +kernel
theorem dX5_init_4 : decode cX5_init 4 = .ok (.return_, 1) := by decide +kernel
theorem dX5_rewind_0 : decode cX5_rewind 0 = .ok (.aload_n 0, 1) := by decide +kernel
theorem dX5_rewind_1 : decode cX5_rewind 1 = .ok (.iconst 0, 1) := by decide +kernel
theorem dX5_rewind_2 : decode cX5_rewind 2 = .ok (.putfield 9, 3) := by decide +kernel
theorem dX5_rewind_5 : decode cX5_rewind 5 = .ok (.return_, 1) := by decide +kernel
set_option maxRecDepth 20000 in
theorem ggX5_firstFault_X5_rewind : GoodIn wsX5_firstFault wsX5_rewind := goodIn_r _ [6, 1, 46, 47, 48, 49, 50, 51] (by decide +kernel) (by decide +kernel)
set_option maxRecDepth 20000 in
theorem gX5_firstFault_X5_rewind : GoodIn wsX5_firstFault (wsV RX5 15 RX5 yX5_rewind wsX5_rewind) := goodIn_app (goodIn_of _ (by decide +kernel)) ggX5_firstFault_X5_rewind
set_option maxRecDepth 20000 in
theorem ggX5_firstFault_X5_readOrder : GoodIn wsX5_firstFault wsX5_readOrder := goodIn_r _ [10, 1, 11, 12, 13, 14, 15, 16, 17, 18, 19, 20, 5, 21, 22, 23, 24, 25, 26, 27, 28, 29, 30, 31, 32, 33, 34, 35, 36, 37, 38, 39, 40, 41, 42, 43, 44, 45, 46, 47, 48, 49, 50, 51, 52, 53] (by decide +kernel) (by decide +kernel)
set_option maxRecDepth 20000 in
theorem gX5_firstFault_X5_readOrder : GoodIn wsX5_firstFault (wsV RX5 18 RX5 yX5_readOrder wsX5_readOrder) := goodIn_app (goodIn_of _ (by decide +kernel)) ggX5_firstFault_X5_readOrder
set_option maxRecDepth 20000 in
theorem ggX5_firstFault_X5_take : GoodIn wsX5_firstFault wsX5_take := goodIn_r _ [36, 1, 12, 13, 14, 15, 16, 17, 46, 47, 48, 49, 50, 51, 52, 53] (by decide +kernel) (by decide +kernel)
set_option maxRecDepth 20000 in
theorem gX5_firstFault_X5_take : GoodIn wsX5_firstFault (wsV RX5 27 RX5 yX5_take wsX5_take) := goodIn_app (goodIn_of _ (by decide +kernel)) ggX5_firstFault_X5_take
theorem dX5_firstFault_0 : decode cX5_firstFault 0 = .ok (.aload_n 0, 1) := by decide +kernel
theorem dX5_firstFault_1 : decode cX5_firstFault 1 = .ok (.invokevirtual 15, 3) := by decide +kernel
theorem dX5_firstFault_4 : decode cX5_firstFault 4 = .ok (.iconst 0, 1) := by decide +kernel
theorem dX5_firstFault_5 : decode cX5_firstFault 5 = .ok (.istore_n 2, 1) := by decide +kernel
theorem dX5_firstFault_6 : decode cX5_firstFault 6 = .ok (.iload_n 2, 1) := by decide +kernel
theorem dX5_firstFault_7 : decode cX5_firstFault 7 = .ok (.bipush 80, 2) := by decide +kernel
theorem dX5_firstFault_9 : decode cX5_firstFault 9 = .ok (.if_icmp .ge 51, 3) := by decide +kernel
theorem dX5_firstFault_12 : decode cX5_firstFault 12 = .ok (.aload_n 0, 1) := by decide +kernel
theorem dX5_firstFault_13 : decode cX5_firstFault 13 = .ok (.aload_n 1, 1) := by decide +kernel
theorem dX5_firstFault_14 : decode cX5_firstFault 14 = .ok (.invokevirtual 18, 3) := by decide +kernel
theorem dX5_firstFault_17 : decode cX5_firstFault 17 = .ok (.ifCond .ne 8, 3) := by decide +kernel
theorem dX5_firstFault_20 : decode cX5_firstFault 20 = .ok (.aload_n 0, 1) := by decide +kernel
theorem dX5_firstFault_21 : decode cX5_firstFault 21 = .ok (.getfield 9, 3) := by decide +kernel
theorem dX5_firstFault_24 : decode cX5_firstFault 24 = .ok (.ireturn, 1) := by decide +kernel
theorem dX5_firstFault_25 : decode cX5_firstFault 25 = .ok (.aload_n 0, 1) := by decide +kernel
theorem dX5_firstFault_26 : decode cX5_firstFault 26 = .ok (.getfield 9, 3) := by decide +kernel
theorem dX5_firstFault_29 : decode cX5_firstFault 29 = .ok (.aload_n 1, 1) := by decide +kernel
theorem dX5_firstFault_30 : decode cX5_firstFault 30 = .ok (.getfield 22, 3) := by decide +kernel
theorem dX5_firstFault_33 : decode cX5_firstFault 33 = .ok (.if_icmp .lt 6, 3) := by decide +kernel
theorem dX5_firstFault_36 : decode cX5_firstFault 36 = .ok (.bipush (-6), 2) := by decide +kernel
theorem dX5_firstFault_38 : decode cX5_firstFault 38 = .ok (.ireturn, 1) := by decide +kernel
theorem dX5_firstFault_39 : decode cX5_firstFault 39 = .ok (.aload_n 0, 1) := by decide +kernel
theorem dX5_firstFault_40 : decode cX5_firstFault 40 = .ok (.aload_n 1, 1) := by decide +kernel
theorem dX5_firstFault_41 : decode cX5_firstFault 41 = .ok (.bipush 59, 2) := by decide +kernel
theorem dX5_firstFault_43 : decode cX5_firstFault 43 = .ok (.invokevirtual 27, 3) := by decide +kernel
theorem dX5_firstFault_46 : decode cX5_firstFault 46 = .ok (.ifCond .ne 8, 3) := by decide +kernel
theorem dX5_firstFault_49 : decode cX5_firstFault 49 = .ok (.aload_n 0, 1) := by decide +kernel
theorem dX5_firstFault_50 : decode cX5_firstFault 50 = .ok (.getfield 9, 3) := by decide +kernel
theorem dX5_firstFault_53 : decode cX5_firstFault 53 = .ok (.ireturn, 1) := by decide +kernel
theorem dX5_firstFault_54 : decode cX5_firstFault 54 = .ok (.iinc 2 1, 3) := by decide +kernel
theorem dX5_firstFault_57 : decode cX5_firstFault 57 = .ok (.goto (-51), 3) := by decide +kernel
theorem dX5_firstFault_60 : decode cX5_firstFault 60 = .ok (.aload_n 0, 1) := by decide +kernel
theorem dX5_firstFault_61 : decode cX5_firstFault 61 = .ok (.getfield 9, 3) := by decide +kernel
theorem dX5_firstFault_64 : decode cX5_firstFault 64 = .ok (.ireturn, 1) := by decide +kernel
set_option maxRecDepth 20000 in
theorem ggX5_readOrder_X3_signAt : GoodIn wsX5_readOrder wsX3_signAt := goodIn_r _ [6, 7, 8, 44, 45] (by decide +kernel) (by decide +kernel)
set_option maxRecDepth 20000 in
theorem gX5_readOrder_X3_signAt_n31 : GoodIn wsX5_readOrder (wsX3_signAt) := ggX5_readOrder_X3_signAt
set_option maxRecDepth 20000 in
theorem ggX5_readOrder_X5_readDigit : GoodIn wsX5_readOrder wsX5_readDigit := goodIn_r _ [13, 14, 15, 16, 17, 18, 12, 19, 1, 3, 4, 5, 6, 7, 8, 38, 39, 40, 41, 42, 43, 44, 45] (by decide +kernel) (by decide +kernel)
set_option maxRecDepth 20000 in
theorem gX5_readOrder_X5_readDigit : GoodIn wsX5_readOrder (wsV RX5 39 RX5 yX5_readDigit wsX5_readDigit) := goodIn_app (goodIn_of _ (by decide +kernel)) ggX5_readOrder_X5_readDigit
set_option maxRecDepth 20000 in
theorem ggX5_readOrder_X5_readPaper : GoodIn wsX5_readOrder wsX5_readPaper := goodIn_r _ [23, 14, 24, 25, 26, 27, 12, 28, 1, 3, 4, 5, 6, 7, 8, 16, 17, 18, 19, 29, 30, 31, 32, 33, 38, 39, 40, 41, 42, 43, 44, 45] (by decide +kernel) (by decide +kernel)
set_option maxRecDepth 20000 in
theorem gX5_readOrder_X5_readPaper : GoodIn wsX5_readOrder (wsV RX5 43 RX5 yX5_readPaper wsX5_readPaper) := goodIn_app (goodIn_of _ (by decide +kernel)) ggX5_readOrder_X5_readPaper
set_option maxRecDepth 20000 in
theorem ggX5_readOrder_X5_readNumber : GoodIn wsX5_readOrder wsX5_readNumber := goodIn_r _ [37, 15, 14, 9, 10, 11, 12, 13, 16, 17, 18, 19, 1, 3, 4, 5, 6, 7, 8, 38, 39, 40, 41, 42, 43, 44, 45] (by decide +kernel) (by decide +kernel)
set_option maxRecDepth 20000 in
theorem gX5_readOrder_X5_readNumber : GoodIn wsX5_readOrder (wsV RX5 46 RX5 yX5_readNumber wsX5_readNumber) := goodIn_app (goodIn_of _ (by decide +kernel)) ggX5_readOrder_X5_readNumber
theorem dX5_readOrder_0 : decode cX5_readOrder 0 = .ok (.aload_n 0, 1) := by decide +kernel
theorem dX5_readOrder_1 : decode cX5_readOrder 1 = .ok (.aload_n 1, 1) := by decide +kernel
theorem dX5_readOrder_2 : decode cX5_readOrder 2 = .ok (.aload_n 0, 1) := by decide +kernel
theorem dX5_readOrder_3 : decode cX5_readOrder 3 = .ok (.getfield 9, 3) := by decide +kernel
theorem dX5_readOrder_6 : decode cX5_readOrder 6 = .ok (.invokevirtual 31, 3) := by decide +kernel
theorem dX5_readOrder_9 : decode cX5_readOrder 9 = .ok (.putfield 35, 3) := by decide +kernel
theorem dX5_readOrder_12 : decode cX5_readOrder 12 = .ok (.aload_n 0, 1) := by decide +kernel
theorem dX5_readOrder_13 : decode cX5_readOrder 13 = .ok (.getfield 35, 3) := by decide +kernel
theorem dX5_readOrder_16 : decode cX5_readOrder 16 = .ok (.lookupswitch 164 #[(97, 96), (99, 60), (111, 144), (114, 128), (116, 128), (119, 128)], 60) := by decide +kernel
theorem dX5_readOrder_76 : decode cX5_readOrder 76 = .ok (.aload_n 0, 1) := by decide +kernel
theorem dX5_readOrder_77 : decode cX5_readOrder 77 = .ok (.dup, 1) := by decide +kernel
theorem dX5_readOrder_78 : decode cX5_readOrder 78 = .ok (.getfield 9, 3) := by decide +kernel
theorem dX5_readOrder_81 : decode cX5_readOrder 81 = .ok (.iconst 1, 1) := by decide +kernel
theorem dX5_readOrder_82 : decode cX5_readOrder 82 = .ok (.iadd, 1) := by decide +kernel
theorem dX5_readOrder_83 : decode cX5_readOrder 83 = .ok (.putfield 9, 3) := by decide +kernel
theorem dX5_readOrder_86 : decode cX5_readOrder 86 = .ok (.aload_n 0, 1) := by decide +kernel
theorem dX5_readOrder_87 : decode cX5_readOrder 87 = .ok (.aload_n 1, 1) := by decide +kernel
theorem dX5_readOrder_88 : decode cX5_readOrder 88 = .ok (.bipush 48, 2) := by decide +kernel
theorem dX5_readOrder_90 : decode cX5_readOrder 90 = .ok (.bipush 49, 2) := by decide +kernel
theorem dX5_readOrder_92 : decode cX5_readOrder 92 = .ok (.invokevirtual 39, 3) := by decide +kernel
theorem dX5_readOrder_95 : decode cX5_readOrder 95 = .ok (.ifCond .eq 15, 3) := by decide +kernel
theorem dX5_readOrder_98 : decode cX5_readOrder 98 = .ok (.aload_n 0, 1) := by decide +kernel
theorem dX5_readOrder_99 : decode cX5_readOrder 99 = .ok (.aload_n 1, 1) := by decide +kernel
theorem dX5_readOrder_100 : decode cX5_readOrder 100 = .ok (.invokevirtual 43, 3) := by decide +kernel
theorem dX5_readOrder_103 : decode cX5_readOrder 103 = .ok (.ifCond .eq 7, 3) := by decide +kernel
theorem dX5_readOrder_106 : decode cX5_readOrder 106 = .ok (.iconst 1, 1) := by decide +kernel
theorem dX5_readOrder_107 : decode cX5_readOrder 107 = .ok (.goto 4, 3) := by decide +kernel
theorem dX5_readOrder_110 : decode cX5_readOrder 110 = .ok (.iconst 0, 1) := by decide +kernel
theorem dX5_readOrder_111 : decode cX5_readOrder 111 = .ok (.ireturn, 1) := by decide +kernel
theorem dX5_readOrder_112 : decode cX5_readOrder 112 = .ok (.aload_n 0, 1) := by decide +kernel
theorem dX5_readOrder_113 : decode cX5_readOrder 113 = .ok (.dup, 1) := by decide +kernel
theorem dX5_readOrder_114 : decode cX5_readOrder 114 = .ok (.getfield 9, 3) := by decide +kernel
theorem dX5_readOrder_117 : decode cX5_readOrder 117 = .ok (.iconst 1, 1) := by decide +kernel
theorem dX5_readOrder_118 : decode cX5_readOrder 118 = .ok (.iadd, 1) := by decide +kernel
theorem dX5_readOrder_119 : decode cX5_readOrder 119 = .ok (.putfield 9, 3) := by decide +kernel
theorem dX5_readOrder_122 : decode cX5_readOrder 122 = .ok (.aload_n 0, 1) := by decide +kernel
theorem dX5_readOrder_123 : decode cX5_readOrder 123 = .ok (.aload_n 1, 1) := by decide +kernel
theorem dX5_readOrder_124 : decode cX5_readOrder 124 = .ok (.invokevirtual 46, 3) := by decide +kernel
theorem dX5_readOrder_127 : decode cX5_readOrder 127 = .ok (.ifCond .eq 15, 3) := by decide +kernel
theorem dX5_readOrder_130 : decode cX5_readOrder 130 = .ok (.aload_n 0, 1) := by decide +kernel
theorem dX5_readOrder_131 : decode cX5_readOrder 131 = .ok (.aload_n 1, 1) := by decide +kernel
theorem dX5_readOrder_132 : decode cX5_readOrder 132 = .ok (.invokevirtual 43, 3) := by decide +kernel
theorem dX5_readOrder_135 : decode cX5_readOrder 135 = .ok (.ifCond .eq 7, 3) := by decide +kernel
theorem dX5_readOrder_138 : decode cX5_readOrder 138 = .ok (.iconst 1, 1) := by decide +kernel
theorem dX5_readOrder_139 : decode cX5_readOrder 139 = .ok (.goto 4, 3) := by decide +kernel
theorem dX5_readOrder_142 : decode cX5_readOrder 142 = .ok (.iconst 0, 1) := by decide +kernel
theorem dX5_readOrder_143 : decode cX5_readOrder 143 = .ok (.ireturn, 1) := by decide +kernel
theorem dX5_readOrder_144 : decode cX5_readOrder 144 = .ok (.aload_n 0, 1) := by decide +kernel
theorem dX5_readOrder_145 : decode cX5_readOrder 145 = .ok (.dup, 1) := by decide +kernel
theorem dX5_readOrder_146 : decode cX5_readOrder 146 = .ok (.getfield 9, 3) := by decide +kernel
theorem dX5_readOrder_149 : decode cX5_readOrder 149 = .ok (.iconst 1, 1) := by decide +kernel
theorem dX5_readOrder_150 : decode cX5_readOrder 150 = .ok (.iadd, 1) := by decide +kernel
theorem dX5_readOrder_151 : decode cX5_readOrder 151 = .ok (.putfield 9, 3) := by decide +kernel
theorem dX5_readOrder_154 : decode cX5_readOrder 154 = .ok (.aload_n 0, 1) := by decide +kernel
theorem dX5_readOrder_155 : decode cX5_readOrder 155 = .ok (.aload_n 1, 1) := by decide +kernel
theorem dX5_readOrder_156 : decode cX5_readOrder 156 = .ok (.invokevirtual 46, 3) := by decide +kernel
theorem dX5_readOrder_159 : decode cX5_readOrder 159 = .ok (.ireturn, 1) := by decide +kernel
theorem dX5_readOrder_160 : decode cX5_readOrder 160 = .ok (.aload_n 0, 1) := by decide +kernel
theorem dX5_readOrder_161 : decode cX5_readOrder 161 = .ok (.dup, 1) := by decide +kernel
theorem dX5_readOrder_162 : decode cX5_readOrder 162 = .ok (.getfield 9, 3) := by decide +kernel
theorem dX5_readOrder_165 : decode cX5_readOrder 165 = .ok (.iconst 1, 1) := by decide +kernel
theorem dX5_readOrder_166 : decode cX5_readOrder 166 = .ok (.iadd, 1) := by decide +kernel
theorem dX5_readOrder_167 : decode cX5_readOrder 167 = .ok (.putfield 9, 3) := by decide +kernel
theorem dX5_readOrder_170 : decode cX5_readOrder 170 = .ok (.aload_n 0, 1) := by decide +kernel
theorem dX5_readOrder_171 : decode cX5_readOrder 171 = .ok (.aload_n 1, 1) := by decide +kernel
theorem dX5_readOrder_172 : decode cX5_readOrder 172 = .ok (.bipush 48, 2) := by decide +kernel
theorem dX5_readOrder_174 : decode cX5_readOrder 174 = .ok (.bipush 57, 2) := by decide +kernel
theorem dX5_readOrder_176 : decode cX5_readOrder 176 = .ok (.invokevirtual 39, 3) := by decide +kernel
theorem dX5_readOrder_179 : decode cX5_readOrder 179 = .ok (.ireturn, 1) := by decide +kernel
theorem dX5_readOrder_180 : decode cX5_readOrder 180 = .ok (.iconst 0, 1) := by decide +kernel
theorem dX5_readOrder_181 : decode cX5_readOrder 181 = .ok (.ireturn, 1) := by decide +kernel
set_option maxRecDepth 20000 in
theorem ggX5_take_X3_signAt : GoodIn wsX5_take wsX3_signAt := goodIn_r _ [5, 6, 7, 14, 15] (by decide +kernel) (by decide +kernel)
set_option maxRecDepth 20000 in
theorem gX5_take_X3_signAt_n31 : GoodIn wsX5_take (wsX3_signAt) := ggX5_take_X3_signAt
theorem dX5_take_0 : decode cX5_take 0 = .ok (.aload_n 1, 1) := by decide +kernel
theorem dX5_take_1 : decode cX5_take 1 = .ok (.aload_n 0, 1) := by decide +kernel
theorem dX5_take_2 : decode cX5_take 2 = .ok (.getfield 9, 3) := by decide +kernel
theorem dX5_take_5 : decode cX5_take 5 = .ok (.invokevirtual 31, 3) := by decide +kernel
theorem dX5_take_8 : decode cX5_take 8 = .ok (.iload_n 2, 1) := by decide +kernel
theorem dX5_take_9 : decode cX5_take 9 = .ok (.if_icmp .eq 5, 3) := by decide +kernel
theorem dX5_take_12 : decode cX5_take 12 = .ok (.iconst 0, 1) := by decide +kernel
theorem dX5_take_13 : decode cX5_take 13 = .ok (.ireturn, 1) := by decide +kernel
theorem dX5_take_14 : decode cX5_take 14 = .ok (.aload_n 0, 1) := by decide +kernel
theorem dX5_take_15 : decode cX5_take 15 = .ok (.dup, 1) := by decide +kernel
theorem dX5_take_16 : decode cX5_take 16 = .ok (.getfield 9, 3) := by decide +kernel
theorem dX5_take_19 : decode cX5_take 19 = .ok (.iconst 1, 1) := by decide +kernel
theorem dX5_take_20 : decode cX5_take 20 = .ok (.iadd, 1) := by decide +kernel
theorem dX5_take_21 : decode cX5_take 21 = .ok (.putfield 9, 3) := by decide +kernel
theorem dX5_take_24 : decode cX5_take 24 = .ok (.iconst 1, 1) := by decide +kernel
theorem dX5_take_25 : decode cX5_take 25 = .ok (.ireturn, 1) := by decide +kernel
set_option maxRecDepth 20000 in
theorem ggX5_takeDigit_X3_signAt : GoodIn wsX5_takeDigit wsX3_signAt := goodIn_r _ [6, 7, 8, 15, 16] (by decide +kernel) (by decide +kernel)
set_option maxRecDepth 20000 in
theorem gX5_takeDigit_X3_signAt_n31 : GoodIn wsX5_takeDigit (wsX3_signAt) := ggX5_takeDigit_X3_signAt
theorem dX5_takeDigit_0 : decode cX5_takeDigit 0 = .ok (.aload_n 1, 1) := by decide +kernel
theorem dX5_takeDigit_1 : decode cX5_takeDigit 1 = .ok (.aload_n 0, 1) := by decide +kernel
theorem dX5_takeDigit_2 : decode cX5_takeDigit 2 = .ok (.getfield 9, 3) := by decide +kernel
theorem dX5_takeDigit_5 : decode cX5_takeDigit 5 = .ok (.invokevirtual 31, 3) := by decide +kernel
theorem dX5_takeDigit_8 : decode cX5_takeDigit 8 = .ok (.istore 4, 2) := by decide +kernel
theorem dX5_takeDigit_10 : decode cX5_takeDigit 10 = .ok (.iload 4, 2) := by decide +kernel
theorem dX5_takeDigit_12 : decode cX5_takeDigit 12 = .ok (.iload_n 2, 1) := by decide +kernel
theorem dX5_takeDigit_13 : decode cX5_takeDigit 13 = .ok (.if_icmp .lt 9, 3) := by decide +kernel
theorem dX5_takeDigit_16 : decode cX5_takeDigit 16 = .ok (.iload 4, 2) := by decide +kernel
theorem dX5_takeDigit_18 : decode cX5_takeDigit 18 = .ok (.iload_n 3, 1) := by decide +kernel
theorem dX5_takeDigit_19 : decode cX5_takeDigit 19 = .ok (.if_icmp .le 5, 3) := by decide +kernel
theorem dX5_takeDigit_22 : decode cX5_takeDigit 22 = .ok (.iconst 0, 1) := by decide +kernel
theorem dX5_takeDigit_23 : decode cX5_takeDigit 23 = .ok (.ireturn, 1) := by decide +kernel
theorem dX5_takeDigit_24 : decode cX5_takeDigit 24 = .ok (.aload_n 0, 1) := by decide +kernel
theorem dX5_takeDigit_25 : decode cX5_takeDigit 25 = .ok (.iload 4, 2) := by decide +kernel
theorem dX5_takeDigit_27 : decode cX5_takeDigit 27 = .ok (.bipush 48, 2) := by decide +kernel
theorem dX5_takeDigit_29 : decode cX5_takeDigit 29 = .ok (.isub, 1) := by decide +kernel
theorem dX5_takeDigit_30 : decode cX5_takeDigit 30 = .ok (.putfield 49, 3) := by decide +kernel
theorem dX5_takeDigit_33 : decode cX5_takeDigit 33 = .ok (.aload_n 0, 1) := by decide +kernel
theorem dX5_takeDigit_34 : decode cX5_takeDigit 34 = .ok (.dup, 1) := by decide +kernel
theorem dX5_takeDigit_35 : decode cX5_takeDigit 35 = .ok (.getfield 9, 3) := by decide +kernel
theorem dX5_takeDigit_38 : decode cX5_takeDigit 38 = .ok (.iconst 1, 1) := by decide +kernel
theorem dX5_takeDigit_39 : decode cX5_takeDigit 39 = .ok (.iadd, 1) := by decide +kernel
theorem dX5_takeDigit_40 : decode cX5_takeDigit 40 = .ok (.putfield 9, 3) := by decide +kernel
theorem dX5_takeDigit_43 : decode cX5_takeDigit 43 = .ok (.iconst 1, 1) := by decide +kernel
theorem dX5_takeDigit_44 : decode cX5_takeDigit 44 = .ok (.ireturn, 1) := by decide +kernel
set_option maxRecDepth 20000 in
theorem ggX5_readDigit_X5_takeDigit : GoodIn wsX5_readDigit wsX5_takeDigit := goodIn_r _ [7, 8, 1, 9, 10, 11, 12, 13, 14, 15, 16, 17, 18, 19, 20, 21, 22] (by decide +kernel) (by decide +kernel)
set_option maxRecDepth 20000 in
theorem gX5_readDigit_X5_takeDigit : GoodIn wsX5_readDigit (wsV RX5 52 RX5 yX5_takeDigit wsX5_takeDigit) := goodIn_app (goodIn_of _ (by decide +kernel)) ggX5_readDigit_X5_takeDigit
theorem dX5_readDigit_0 : decode cX5_readDigit 0 = .ok (.aload_n 0, 1) := by decide +kernel
theorem dX5_readDigit_1 : decode cX5_readDigit 1 = .ok (.aload_n 1, 1) := by decide +kernel
theorem dX5_readDigit_2 : decode cX5_readDigit 2 = .ok (.iload_n 2, 1) := by decide +kernel
theorem dX5_readDigit_3 : decode cX5_readDigit 3 = .ok (.iload_n 3, 1) := by decide +kernel
theorem dX5_readDigit_4 : decode cX5_readDigit 4 = .ok (.invokevirtual 52, 3) := by decide +kernel
theorem dX5_readDigit_7 : decode cX5_readDigit 7 = .ok (.ifCond .ne 5, 3) := by decide +kernel
theorem dX5_readDigit_10 : decode cX5_readDigit 10 = .ok (.iconst 0, 1) := by decide +kernel
theorem dX5_readDigit_11 : decode cX5_readDigit 11 = .ok (.ireturn, 1) := by decide +kernel
theorem dX5_readDigit_12 : decode cX5_readDigit 12 = .ok (.aload_n 0, 1) := by decide +kernel
theorem dX5_readDigit_13 : decode cX5_readDigit 13 = .ok (.aload_n 0, 1) := by decide +kernel
theorem dX5_readDigit_14 : decode cX5_readDigit 14 = .ok (.getfield 49, 3) := by decide +kernel
theorem dX5_readDigit_17 : decode cX5_readDigit 17 = .ok (.putfield 55, 3) := by decide +kernel
theorem dX5_readDigit_20 : decode cX5_readDigit 20 = .ok (.iconst 1, 1) := by decide +kernel
theorem dX5_readDigit_21 : decode cX5_readDigit 21 = .ok (.ireturn, 1) := by decide +kernel
set_option maxRecDepth 20000 in
theorem ggX5_readNumber_X5_readDigit : GoodIn wsX5_readNumber wsX5_readDigit := goodIn_r _ [7, 2, 1, 8, 9, 10, 6, 11, 12, 13, 14, 15, 16, 17, 18, 19, 20, 21, 22, 23, 24, 25, 26] (by decide +kernel) (by decide +kernel)
set_option maxRecDepth 20000 in
theorem gX5_readNumber_X5_readDigit : GoodIn wsX5_readNumber (wsV RX5 39 RX5 yX5_readDigit wsX5_readDigit) := goodIn_app (goodIn_of _ (by decide +kernel)) ggX5_readNumber_X5_readDigit
set_option maxRecDepth 20000 in
theorem ggX5_readNumber_X5_takeDigit : GoodIn wsX5_readNumber wsX5_takeDigit := goodIn_r _ [11, 12, 2, 13, 14, 15, 16, 17, 18, 19, 20, 21, 22, 23, 24, 25, 26] (by decide +kernel) (by decide +kernel)
set_option maxRecDepth 20000 in
theorem gX5_readNumber_X5_takeDigit : GoodIn wsX5_readNumber (wsV RX5 52 RX5 yX5_takeDigit wsX5_takeDigit) := goodIn_app (goodIn_of _ (by decide +kernel)) ggX5_readNumber_X5_takeDigit
theorem dX5_readNumber_0 : decode cX5_readNumber 0 = .ok (.aload_n 0, 1) := by decide +kernel
theorem dX5_readNumber_1 : decode cX5_readNumber 1 = .ok (.aload_n 1, 1) := by decide +kernel
theorem dX5_readNumber_2 : decode cX5_readNumber 2 = .ok (.bipush 48, 2) := by decide +kernel
theorem dX5_readNumber_4 : decode cX5_readNumber 4 = .ok (.bipush 57, 2) := by decide +kernel
theorem dX5_readNumber_6 : decode cX5_readNumber 6 = .ok (.invokevirtual 39, 3) := by decide +kernel
theorem dX5_readNumber_9 : decode cX5_readNumber 9 = .ok (.ifCond .ne 5, 3) := by decide +kernel
theorem dX5_readNumber_12 : decode cX5_readNumber 12 = .ok (.iconst 0, 1) := by decide +kernel
theorem dX5_readNumber_13 : decode cX5_readNumber 13 = .ok (.ireturn, 1) := by decide +kernel
theorem dX5_readNumber_14 : decode cX5_readNumber 14 = .ok (.aload_n 0, 1) := by decide +kernel
theorem dX5_readNumber_15 : decode cX5_readNumber 15 = .ok (.getfield 55, 3) := by decide +kernel
theorem dX5_readNumber_18 : decode cX5_readNumber 18 = .ok (.ifCond .le 31, 3) := by decide +kernel
theorem dX5_readNumber_21 : decode cX5_readNumber 21 = .ok (.aload_n 0, 1) := by decide +kernel
theorem dX5_readNumber_22 : decode cX5_readNumber 22 = .ok (.aload_n 1, 1) := by decide +kernel
theorem dX5_readNumber_23 : decode cX5_readNumber 23 = .ok (.bipush 48, 2) := by decide +kernel
theorem dX5_readNumber_25 : decode cX5_readNumber 25 = .ok (.bipush 57, 2) := by decide +kernel
theorem dX5_readNumber_27 : decode cX5_readNumber 27 = .ok (.invokevirtual 52, 3) := by decide +kernel
theorem dX5_readNumber_30 : decode cX5_readNumber 30 = .ok (.ifCond .eq 19, 3) := by decide +kernel
theorem dX5_readNumber_33 : decode cX5_readNumber 33 = .ok (.aload_n 0, 1) := by decide +kernel
theorem dX5_readNumber_34 : decode cX5_readNumber 34 = .ok (.bipush 10, 2) := by decide +kernel
theorem dX5_readNumber_36 : decode cX5_readNumber 36 = .ok (.aload_n 0, 1) := by decide +kernel
theorem dX5_readNumber_37 : decode cX5_readNumber 37 = .ok (.getfield 55, 3) := by decide +kernel
theorem dX5_readNumber_40 : decode cX5_readNumber 40 = .ok (.imul, 1) := by decide +kernel
theorem dX5_readNumber_41 : decode cX5_readNumber 41 = .ok (.aload_n 0, 1) := by decide +kernel
theorem dX5_readNumber_42 : decode cX5_readNumber 42 = .ok (.getfield 49, 3) := by decide +kernel
theorem dX5_readNumber_45 : decode cX5_readNumber 45 = .ok (.iadd, 1) := by decide +kernel
theorem dX5_readNumber_46 : decode cX5_readNumber 46 = .ok (.putfield 55, 3) := by decide +kernel
theorem dX5_readNumber_49 : decode cX5_readNumber 49 = .ok (.iconst 1, 1) := by decide +kernel
theorem dX5_readNumber_50 : decode cX5_readNumber 50 = .ok (.ireturn, 1) := by decide +kernel
set_option maxRecDepth 20000 in
theorem ggX5_readPaper_X5_take : GoodIn wsX5_readPaper wsX5_take := goodIn_r _ [7, 8, 9, 10, 11, 12, 13, 14, 24, 25, 26, 27, 28, 29, 30, 31] (by decide +kernel) (by decide +kernel)
set_option maxRecDepth 20000 in
theorem gX5_readPaper_X5_take : GoodIn wsX5_readPaper (wsV RX5 27 RX5 yX5_take wsX5_take) := goodIn_app (goodIn_of _ (by decide +kernel)) ggX5_readPaper_X5_take
set_option maxRecDepth 20000 in
theorem ggX5_readPaper_X5_takeDigit : GoodIn wsX5_readPaper wsX5_takeDigit := goodIn_r _ [18, 8, 1, 9, 10, 11, 12, 13, 14, 24, 25, 26, 27, 28, 29, 30, 31] (by decide +kernel) (by decide +kernel)
set_option maxRecDepth 20000 in
theorem gX5_readPaper_X5_takeDigit : GoodIn wsX5_readPaper (wsV RX5 52 RX5 yX5_takeDigit wsX5_takeDigit) := goodIn_app (goodIn_of _ (by decide +kernel)) ggX5_readPaper_X5_takeDigit
set_option maxRecDepth 20000 in
theorem ggX5_readPaper_X5_readCites : GoodIn wsX5_readPaper wsX5_readCites := goodIn_r _ [22, 23, 1, 3, 4, 5, 6, 7, 8, 9, 10, 11, 12, 13, 14, 15, 16, 17, 18, 24, 25, 26, 27, 28, 29, 30, 31] (by decide +kernel) (by decide +kernel)
set_option maxRecDepth 20000 in
theorem gX5_readPaper_X5_readCites : GoodIn wsX5_readPaper (wsV RX5 61 RX5 yX5_readCites wsX5_readCites) := goodIn_app (goodIn_of _ (by decide +kernel)) ggX5_readPaper_X5_readCites
theorem dX5_readPaper_0 : decode cX5_readPaper 0 = .ok (.aload_n 0, 1) := by decide +kernel
theorem dX5_readPaper_1 : decode cX5_readPaper 1 = .ok (.aload_n 1, 1) := by decide +kernel
theorem dX5_readPaper_2 : decode cX5_readPaper 2 = .ok (.bipush 47, 2) := by decide +kernel
theorem dX5_readPaper_4 : decode cX5_readPaper 4 = .ok (.invokevirtual 27, 3) := by decide +kernel
theorem dX5_readPaper_7 : decode cX5_readPaper 7 = .ok (.ifCond .eq 15, 3) := by decide +kernel
theorem dX5_readPaper_10 : decode cX5_readPaper 10 = .ok (.aload_n 0, 1) := by decide +kernel
theorem dX5_readPaper_11 : decode cX5_readPaper 11 = .ok (.aload_n 1, 1) := by decide +kernel
theorem dX5_readPaper_12 : decode cX5_readPaper 12 = .ok (.bipush 49, 2) := by decide +kernel
theorem dX5_readPaper_14 : decode cX5_readPaper 14 = .ok (.bipush 57, 2) := by decide +kernel
theorem dX5_readPaper_16 : decode cX5_readPaper 16 = .ok (.invokevirtual 52, 3) := by decide +kernel
theorem dX5_readPaper_19 : decode cX5_readPaper 19 = .ok (.ifCond .ne 5, 3) := by decide +kernel
theorem dX5_readPaper_22 : decode cX5_readPaper 22 = .ok (.iconst 0, 1) := by decide +kernel
theorem dX5_readPaper_23 : decode cX5_readPaper 23 = .ok (.ireturn, 1) := by decide +kernel
theorem dX5_readPaper_24 : decode cX5_readPaper 24 = .ok (.aload_n 0, 1) := by decide +kernel
theorem dX5_readPaper_25 : decode cX5_readPaper 25 = .ok (.aload_n 0, 1) := by decide +kernel
theorem dX5_readPaper_26 : decode cX5_readPaper 26 = .ok (.getfield 49, 3) := by decide +kernel
theorem dX5_readPaper_29 : decode cX5_readPaper 29 = .ok (.putfield 58, 3) := by decide +kernel
theorem dX5_readPaper_32 : decode cX5_readPaper 32 = .ok (.aload_n 0, 1) := by decide +kernel
theorem dX5_readPaper_33 : decode cX5_readPaper 33 = .ok (.aload_n 1, 1) := by decide +kernel
theorem dX5_readPaper_34 : decode cX5_readPaper 34 = .ok (.invokevirtual 61, 3) := by decide +kernel
theorem dX5_readPaper_37 : decode cX5_readPaper 37 = .ok (.ireturn, 1) := by decide +kernel
set_option maxRecDepth 20000 in
theorem ggX5_readCites_X5_take : GoodIn wsX5_readCites wsX5_take := goodIn_r _ [7, 8, 9, 10, 11, 12, 13, 14, 19, 20, 21, 22, 23, 24, 25, 26] (by decide +kernel) (by decide +kernel)
set_option maxRecDepth 20000 in
theorem gX5_readCites_X5_take : GoodIn wsX5_readCites (wsV RX5 27 RX5 yX5_take wsX5_take) := goodIn_app (goodIn_of _ (by decide +kernel)) ggX5_readCites_X5_take
set_option maxRecDepth 20000 in
theorem ggX5_readCites_X5_takeDigit : GoodIn wsX5_readCites wsX5_takeDigit := goodIn_r _ [18, 8, 2, 9, 10, 11, 12, 13, 14, 19, 20, 21, 22, 23, 24, 25, 26] (by decide +kernel) (by decide +kernel)
set_option maxRecDepth 20000 in
theorem gX5_readCites_X5_takeDigit : GoodIn wsX5_readCites (wsV RX5 52 RX5 yX5_takeDigit wsX5_takeDigit) := goodIn_app (goodIn_of _ (by decide +kernel)) ggX5_readCites_X5_takeDigit
theorem dX5_readCites_0 : decode cX5_readCites 0 = .ok (.aload_n 0, 1) := by decide +kernel
theorem dX5_readCites_1 : decode cX5_readCites 1 = .ok (.iconst 0, 1) := by decide +kernel
theorem dX5_readCites_2 : decode cX5_readCites 2 = .ok (.putfield 64, 3) := by decide +kernel
theorem dX5_readCites_5 : decode cX5_readCites 5 = .ok (.aload_n 0, 1) := by decide +kernel
theorem dX5_readCites_6 : decode cX5_readCites 6 = .ok (.aload_n 1, 1) := by decide +kernel
theorem dX5_readCites_7 : decode cX5_readCites 7 = .ok (.bipush 43, 2) := by decide +kernel
theorem dX5_readCites_9 : decode cX5_readCites 9 = .ok (.invokevirtual 27, 3) := by decide +kernel
theorem dX5_readCites_12 : decode cX5_readCites 12 = .ok (.ifCond .ne 5, 3) := by decide +kernel
theorem dX5_readCites_15 : decode cX5_readCites 15 = .ok (.iconst 1, 1) := by decide +kernel
theorem dX5_readCites_16 : decode cX5_readCites 16 = .ok (.ireturn, 1) := by decide +kernel
theorem dX5_readCites_17 : decode cX5_readCites 17 = .ok (.iconst 0, 1) := by decide +kernel
theorem dX5_readCites_18 : decode cX5_readCites 18 = .ok (.istore_n 2, 1) := by decide +kernel
theorem dX5_readCites_19 : decode cX5_readCites 19 = .ok (.iload_n 2, 1) := by decide +kernel
theorem dX5_readCites_20 : decode cX5_readCites 20 = .ok (.bipush 80, 2) := by decide +kernel
theorem dX5_readCites_22 : decode cX5_readCites 22 = .ok (.if_icmp .ge 36, 3) := by decide +kernel
theorem dX5_readCites_25 : decode cX5_readCites 25 = .ok (.aload_n 0, 1) := by decide +kernel
theorem dX5_readCites_26 : decode cX5_readCites 26 = .ok (.aload_n 1, 1) := by decide +kernel
theorem dX5_readCites_27 : decode cX5_readCites 27 = .ok (.bipush 48, 2) := by decide +kernel
theorem dX5_readCites_29 : decode cX5_readCites 29 = .ok (.bipush 57, 2) := by decide +kernel
theorem dX5_readCites_31 : decode cX5_readCites 31 = .ok (.invokevirtual 52, 3) := by decide +kernel
theorem dX5_readCites_34 : decode cX5_readCites 34 = .ok (.ifCond .eq 24, 3) := by decide +kernel
theorem dX5_readCites_37 : decode cX5_readCites 37 = .ok (.aload_n 0, 1) := by decide +kernel
theorem dX5_readCites_38 : decode cX5_readCites 38 = .ok (.dup, 1) := by decide +kernel
theorem dX5_readCites_39 : decode cX5_readCites 39 = .ok (.getfield 64, 3) := by decide +kernel
theorem dX5_readCites_42 : decode cX5_readCites 42 = .ok (.iconst 1, 1) := by decide +kernel
theorem dX5_readCites_43 : decode cX5_readCites 43 = .ok (.aload_n 0, 1) := by decide +kernel
theorem dX5_readCites_44 : decode cX5_readCites 44 = .ok (.getfield 49, 3) := by decide +kernel
theorem dX5_readCites_47 : decode cX5_readCites 47 = .ok (.ishl, 1) := by decide +kernel
theorem dX5_readCites_48 : decode cX5_readCites 48 = .ok (.ior, 1) := by decide +kernel
theorem dX5_readCites_49 : decode cX5_readCites 49 = .ok (.putfield 64, 3) := by decide +kernel
theorem dX5_readCites_52 : decode cX5_readCites 52 = .ok (.iinc 2 1, 3) := by decide +kernel
theorem dX5_readCites_55 : decode cX5_readCites 55 = .ok (.goto (-36), 3) := by decide +kernel
theorem dX5_readCites_58 : decode cX5_readCites 58 = .ok (.aload_n 0, 1) := by decide +kernel
theorem dX5_readCites_59 : decode cX5_readCites 59 = .ok (.getfield 64, 3) := by decide +kernel
theorem dX5_readCites_62 : decode cX5_readCites 62 = .ok (.ifCond .eq 7, 3) := by decide +kernel
theorem dX5_readCites_65 : decode cX5_readCites 65 = .ok (.iconst 1, 1) := by decide +kernel
theorem dX5_readCites_66 : decode cX5_readCites 66 = .ok (.goto 4, 3) := by decide +kernel
theorem dX5_readCites_69 : decode cX5_readCites 69 = .ok (.iconst 0, 1) := by decide +kernel
theorem dX5_readCites_70 : decode cX5_readCites 70 = .ok (.ireturn, 1) := by decide +kernel
set_option maxRecDepth 20000 in
theorem ggX6_init_X0_init : GoodIn wsX6_init wsX0_init := goodIn_r _ [26, 27, 2, 3, 28, 29, 30, 31, 32, 33, 34, 35, 36, 56, 57, 58, 59, 60, 61, 81, 82, 83, 84, 85, 86, 87] (by decide +kernel) (by decide +kernel)
set_option maxRecDepth 20000 in
theorem gX6_init_X0_init_n11 : GoodIn wsX6_init (wsX0_init) := ggX6_init_X0_init
set_option maxRecDepth 20000 in
theorem ggX6_init_X1_init : GoodIn wsX6_init wsX1_init := goodIn_r _ [38, 39, 2, 3, 40, 41, 42, 69, 70] (by decide +kernel) (by decide +kernel)
set_option maxRecDepth 20000 in
theorem gX6_init_X1_init_n18 : GoodIn wsX6_init (wsX1_init) := ggX6_init_X1_init
set_option maxRecDepth 20000 in
theorem ggX6_init_X3_init : GoodIn wsX6_init wsX3_init := goodIn_r _ [44, 45, 2, 3, 46, 47, 71, 72] (by decide +kernel) (by decide +kernel)
set_option maxRecDepth 20000 in
theorem gX6_init_X3_init_n25 : GoodIn wsX6_init (wsX3_init) := ggX6_init_X3_init
set_option maxRecDepth 20000 in
theorem ggX6_init_X5_init : GoodIn wsX6_init wsX5_init := goodIn_r _ [49, 50, 2, 3] (by decide +kernel) (by decide +kernel)
set_option maxRecDepth 20000 in
theorem gX6_init_X5_init_n32 : GoodIn wsX6_init (wsX5_init) := ggX6_init_X5_init
set_option maxRecDepth 20000 in
theorem ggX6_init_X2_init : GoodIn wsX6_init wsX2_init := goodIn_r _ [52, 53, 2, 3, 54, 55, 5, 6, 25, 26, 27, 28, 29, 30, 31, 32, 33, 34, 35, 36, 79, 80, 56, 57, 58, 59, 60, 61, 81, 82, 83, 84, 85, 86, 87] (by decide +kernel) (by decide +kernel)
set_option maxRecDepth 20000 in
theorem gX6_init_X2_init_n39 : GoodIn wsX6_init (wsX2_init) := ggX6_init_X2_init
theorem dX6_init_0 : decode cX6_init 0 = .ok (.aload_n 0, 1) := by decide +kernel
theorem dX6_init_1 : decode cX6_init 1 = .ok (.invokespecial 3, 3) := by decide +kernel
theorem dX6_init_4 : decode cX6_init 4 = .ok (.aload_n 0, 1) := by decide +kernel
theorem dX6_init_5 : decode cX6_init 5 = .ok (.new 9, 3) := by decide +kernel
theorem dX6_init_8 : decode cX6_init 8 = .ok (.dup, 1) := by decide +kernel
theorem dX6_init_9 : decode cX6_init 9 = .ok (.invokespecial 11, 3) := by decide +kernel
theorem dX6_init_12 : decode cX6_init 12 = .ok (.putfield 12, 3) := by decide +kernel
theorem dX6_init_15 : decode cX6_init 15 = .ok (.aload_n 0, 1) := by decide +kernel
theorem dX6_init_16 : decode cX6_init 16 = .ok (.new 16, 3) := by decide +kernel
theorem dX6_init_19 : decode cX6_init 19 = .ok (.dup, 1) := by decide +kernel
theorem dX6_init_20 : decode cX6_init 20 = .ok (.invokespecial 18, 3) := by decide +kernel
theorem dX6_init_23 : decode cX6_init 23 = .ok (.putfield 19, 3) := by decide +kernel
theorem dX6_init_26 : decode cX6_init 26 = .ok (.aload_n 0, 1) := by decide +kernel
theorem dX6_init_27 : decode cX6_init 27 = .ok (.new 23, 3) := by decide +kernel
theorem dX6_init_30 : decode cX6_init 30 = .ok (.dup, 1) := by decide +kernel
theorem dX6_init_31 : decode cX6_init 31 = .ok (.invokespecial 25, 3) := by decide +kernel
theorem dX6_init_34 : decode cX6_init 34 = .ok (.putfield 26, 3) := by decide +kernel
theorem dX6_init_37 : decode cX6_init 37 = .ok (.aload_n 0, 1) := by decide +kernel
theorem dX6_init_38 : decode cX6_init 38 = .ok (.new 30, 3) := by decide +kernel
theorem dX6_init_41 : decode cX6_init 41 = .ok (.dup, 1) := by decide +kernel
theorem dX6_init_42 : decode cX6_init 42 = .ok (.invokespecial 32, 3) := by decide +kernel
theorem dX6_init_45 : decode cX6_init 45 = .ok (.putfield 33, 3) := by decide +kernel
theorem dX6_init_48 : decode cX6_init 48 = .ok (.aload_n 0, 1) := by decide +kernel
theorem dX6_init_49 : decode cX6_init 49 = .ok (.new 37, 3) := by decide +kernel
theorem dX6_init_52 : decode cX6_init 52 = .ok (.dup, 1) := by decide +kernel
theorem dX6_init_53 : decode cX6_init 53 = .ok (.invokespecial 39, 3) := by decide +kernel
theorem dX6_init_56 : decode cX6_init 56 = .ok (.putfield 40, 3) := by decide +kernel
theorem dX6_init_59 : decode cX6_init 59 = .ok (.aload_n 0, 1) := by decide +kernel
theorem dX6_init_60 : decode cX6_init 60 = .ok (.iconst 2, 1) := by decide +kernel
theorem dX6_init_61 : decode cX6_init 61 = .ok (.anewarray 9, 3) := by decide +kernel
theorem dX6_init_64 : decode cX6_init 64 = .ok (.putfield 44, 3) := by decide +kernel
theorem dX6_init_67 : decode cX6_init 67 = .ok (.iconst 0, 1) := by decide +kernel
theorem dX6_init_68 : decode cX6_init 68 = .ok (.istore_n 1, 1) := by decide +kernel
theorem dX6_init_69 : decode cX6_init 69 = .ok (.iload_n 1, 1) := by decide +kernel
theorem dX6_init_70 : decode cX6_init 70 = .ok (.aload_n 0, 1) := by decide +kernel
theorem dX6_init_71 : decode cX6_init 71 = .ok (.getfield 44, 3) := by decide +kernel
theorem dX6_init_74 : decode cX6_init 74 = .ok (.arraylength, 1) := by decide +kernel
theorem dX6_init_75 : decode cX6_init 75 = .ok (.if_icmp .ge 22, 3) := by decide +kernel
theorem dX6_init_78 : decode cX6_init 78 = .ok (.aload_n 0, 1) := by decide +kernel
theorem dX6_init_79 : decode cX6_init 79 = .ok (.getfield 44, 3) := by decide +kernel
theorem dX6_init_82 : decode cX6_init 82 = .ok (.iload_n 1, 1) := by decide +kernel
theorem dX6_init_83 : decode cX6_init 83 = .ok (.new 9, 3) := by decide +kernel
theorem dX6_init_86 : decode cX6_init 86 = .ok (.dup, 1) := by decide +kernel
theorem dX6_init_87 : decode cX6_init 87 = .ok (.invokespecial 11, 3) := by decide +kernel
theorem dX6_init_90 : decode cX6_init 90 = .ok (.aastore, 1) := by decide +kernel
theorem dX6_init_91 : decode cX6_init 91 = .ok (.iinc 1 1, 3) := by decide +kernel
theorem dX6_init_94 : decode cX6_init 94 = .ok (.goto (-25), 3) := by decide +kernel
theorem dX6_init_97 : decode cX6_init 97 = .ok (.return_, 1) := by decide +kernel
set_option maxRecDepth 20000 in
theorem ggX6_set_X2_prepare : GoodIn wsX6_set wsX2_prepare := goodIn_r _ [6, 7, 8, 9, 10, 4, 11, 12, 13, 14, 15, 16, 17, 18, 19, 20, 21, 22, 23, 24, 25, 26, 27, 28, 29, 30, 31, 32, 33, 34, 35, 36, 37, 55, 56, 57, 58, 59, 60, 61, 62, 63, 64, 65, 66, 67, 68, 69] (by decide +kernel) (by decide +kernel)
set_option maxRecDepth 20000 in
theorem gX6_set_X2_prepare_n48 : GoodIn wsX6_set (wsX2_prepare) := ggX6_set_X2_prepare
set_option maxRecDepth 20000 in
theorem ggX6_set_X0_adjust : GoodIn wsX6_set wsX0_adjust := goodIn_r _ [40, 20, 21, 57, 58, 59, 60, 61, 62] (by decide +kernel) (by decide +kernel)
set_option maxRecDepth 20000 in
theorem gX6_set_X0_adjust_n52 : GoodIn wsX6_set (wsX0_adjust) := ggX6_set_X0_adjust
set_option maxRecDepth 20000 in
theorem ggX6_set_X2_settle : GoodIn wsX6_set wsX2_settle := goodIn_r _ [43, 7, 44, 45, 46, 4, 47, 12, 8, 9, 10, 11, 55, 56] (by decide +kernel) (by decide +kernel)
set_option maxRecDepth 20000 in
theorem gX6_set_X2_settle_n56 : GoodIn wsX6_set (wsX2_settle) := ggX6_set_X2_settle
theorem dX6_set_0 : decode cX6_set 0 = .ok (.aload_n 0, 1) := by decide +kernel
theorem dX6_set_1 : decode cX6_set 1 = .ok (.getfield 40, 3) := by decide +kernel
theorem dX6_set_4 : decode cX6_set 4 = .ok (.aload_n 0, 1) := by decide +kernel
theorem dX6_set_5 : decode cX6_set 5 = .ok (.getfield 12, 3) := by decide +kernel
theorem dX6_set_8 : decode cX6_set 8 = .ok (.invokevirtual 48, 3) := by decide +kernel
theorem dX6_set_11 : decode cX6_set 11 = .ok (.aload_n 0, 1) := by decide +kernel
theorem dX6_set_12 : decode cX6_set 12 = .ok (.getfield 40, 3) := by decide +kernel
theorem dX6_set_15 : decode cX6_set 15 = .ok (.aload_n 0, 1) := by decide +kernel
theorem dX6_set_16 : decode cX6_set 16 = .ok (.getfield 12, 3) := by decide +kernel
theorem dX6_set_19 : decode cX6_set 19 = .ok (.iload_n 1, 1) := by decide +kernel
theorem dX6_set_20 : decode cX6_set 20 = .ok (.iload_n 2, 1) := by decide +kernel
theorem dX6_set_21 : decode cX6_set 21 = .ok (.invokevirtual 52, 3) := by decide +kernel
theorem dX6_set_24 : decode cX6_set 24 = .ok (.invokevirtual 56, 3) := by decide +kernel
theorem dX6_set_27 : decode cX6_set 27 = .ok (.ireturn, 1) := by decide +kernel
set_option maxRecDepth 20000 in
theorem ggX6_claim_X2_prepare : GoodIn wsX6_claim wsX2_prepare := goodIn_r _ [6, 7, 8, 9, 10, 4, 11, 12, 13, 14, 15, 16, 17, 18, 19, 20, 21, 22, 23, 24, 25, 26, 27, 28, 29, 30, 31, 32, 33, 34, 35, 36, 37, 66, 67, 68, 69, 70, 71, 72, 73, 74, 75, 76, 77, 78, 79, 80] (by decide +kernel) (by decide +kernel)
set_option maxRecDepth 20000 in
theorem gX6_claim_X2_prepare_n48 : GoodIn wsX6_claim (wsX2_prepare) := ggX6_claim_X2_prepare
set_option maxRecDepth 20000 in
theorem ggX6_claim_X0_fileClaim : GoodIn wsX6_claim wsX0_fileClaim := goodIn_r _ [40, 41, 42, 14, 43, 44, 45, 46, 47, 18, 17, 48, 49, 50, 51, 22, 74, 75, 76, 77, 78, 79, 80, 68, 69, 70, 71, 72, 73] (by decide +kernel) (by decide +kernel)
set_option maxRecDepth 20000 in
theorem gX6_claim_X0_fileClaim_n60 : GoodIn wsX6_claim (wsX0_fileClaim) := ggX6_claim_X0_fileClaim
set_option maxRecDepth 20000 in
theorem ggX6_claim_X2_settle : GoodIn wsX6_claim wsX2_settle := goodIn_r _ [54, 7, 55, 56, 57, 4, 58, 12, 8, 9, 10, 11, 66, 67] (by decide +kernel) (by decide +kernel)
set_option maxRecDepth 20000 in
theorem gX6_claim_X2_settle_n56 : GoodIn wsX6_claim (wsX2_settle) := ggX6_claim_X2_settle
theorem dX6_claim_0 : decode cX6_claim 0 = .ok (.aload_n 0, 1) := by decide +kernel
theorem dX6_claim_1 : decode cX6_claim 1 = .ok (.getfield 40, 3) := by decide +kernel
theorem dX6_claim_4 : decode cX6_claim 4 = .ok (.aload_n 0, 1) := by decide +kernel
theorem dX6_claim_5 : decode cX6_claim 5 = .ok (.getfield 12, 3) := by decide +kernel
theorem dX6_claim_8 : decode cX6_claim 8 = .ok (.invokevirtual 48, 3) := by decide +kernel
theorem dX6_claim_11 : decode cX6_claim 11 = .ok (.aload_n 0, 1) := by decide +kernel
theorem dX6_claim_12 : decode cX6_claim 12 = .ok (.getfield 40, 3) := by decide +kernel
theorem dX6_claim_15 : decode cX6_claim 15 = .ok (.aload_n 0, 1) := by decide +kernel
theorem dX6_claim_16 : decode cX6_claim 16 = .ok (.getfield 12, 3) := by decide +kernel
theorem dX6_claim_19 : decode cX6_claim 19 = .ok (.iload_n 1, 1) := by decide +kernel
theorem dX6_claim_20 : decode cX6_claim 20 = .ok (.iload_n 2, 1) := by decide +kernel
theorem dX6_claim_21 : decode cX6_claim 21 = .ok (.iload_n 3, 1) := by decide +kernel
theorem dX6_claim_22 : decode cX6_claim 22 = .ok (.invokevirtual 60, 3) := by decide +kernel
theorem dX6_claim_25 : decode cX6_claim 25 = .ok (.invokevirtual 56, 3) := by decide +kernel
theorem dX6_claim_28 : decode cX6_claim 28 = .ok (.ireturn, 1) := by decide +kernel
set_option maxRecDepth 20000 in
theorem ggX6_answer_X2_prepare : GoodIn wsX6_answer wsX2_prepare := goodIn_r _ [6, 7, 8, 9, 10, 4, 11, 12, 13, 14, 15, 16, 17, 18, 19, 20, 21, 22, 23, 24, 25, 26, 27, 28, 29, 30, 31, 32, 33, 34, 35, 36, 37, 66, 67, 68, 69, 70, 71, 72, 73, 74, 75, 76, 77, 78, 79, 80] (by decide +kernel) (by decide +kernel)
set_option maxRecDepth 20000 in
theorem gX6_answer_X2_prepare_n48 : GoodIn wsX6_answer (wsX2_prepare) := ggX6_answer_X2_prepare
set_option maxRecDepth 20000 in
theorem ggX6_answer_X0_fileAnswer : GoodIn wsX6_answer wsX0_fileAnswer := goodIn_r _ [40, 23, 24, 25, 14, 26, 17, 22, 41, 42, 43, 44, 45, 46, 47, 48, 49, 50, 51, 18, 74, 75, 76, 77, 78, 79, 80, 68, 69, 70, 71, 72, 73] (by decide +kernel) (by decide +kernel)
set_option maxRecDepth 20000 in
theorem gX6_answer_X0_fileAnswer_n64 : GoodIn wsX6_answer (wsX0_fileAnswer) := ggX6_answer_X0_fileAnswer
set_option maxRecDepth 20000 in
theorem ggX6_answer_X2_settle : GoodIn wsX6_answer wsX2_settle := goodIn_r _ [54, 7, 55, 56, 57, 4, 58, 12, 8, 9, 10, 11, 66, 67] (by decide +kernel) (by decide +kernel)
set_option maxRecDepth 20000 in
theorem gX6_answer_X2_settle_n56 : GoodIn wsX6_answer (wsX2_settle) := ggX6_answer_X2_settle
theorem dX6_answer_0 : decode cX6_answer 0 = .ok (.aload_n 0, 1) := by decide +kernel
theorem dX6_answer_1 : decode cX6_answer 1 = .ok (.getfield 40, 3) := by decide +kernel
theorem dX6_answer_4 : decode cX6_answer 4 = .ok (.aload_n 0, 1) := by decide +kernel
theorem dX6_answer_5 : decode cX6_answer 5 = .ok (.getfield 12, 3) := by decide +kernel
theorem dX6_answer_8 : decode cX6_answer 8 = .ok (.invokevirtual 48, 3) := by decide +kernel
theorem dX6_answer_11 : decode cX6_answer 11 = .ok (.aload_n 0, 1) := by decide +kernel
theorem dX6_answer_12 : decode cX6_answer 12 = .ok (.getfield 40, 3) := by decide +kernel
theorem dX6_answer_15 : decode cX6_answer 15 = .ok (.aload_n 0, 1) := by decide +kernel
theorem dX6_answer_16 : decode cX6_answer 16 = .ok (.getfield 12, 3) := by decide +kernel
theorem dX6_answer_19 : decode cX6_answer 19 = .ok (.iload_n 1, 1) := by decide +kernel
theorem dX6_answer_20 : decode cX6_answer 20 = .ok (.iload_n 2, 1) := by decide +kernel
theorem dX6_answer_21 : decode cX6_answer 21 = .ok (.iload_n 3, 1) := by decide +kernel
theorem dX6_answer_22 : decode cX6_answer 22 = .ok (.invokevirtual 64, 3) := by decide +kernel
theorem dX6_answer_25 : decode cX6_answer 25 = .ok (.invokevirtual 56, 3) := by decide +kernel
theorem dX6_answer_28 : decode cX6_answer 28 = .ok (.ireturn, 1) := by decide +kernel
set_option maxRecDepth 20000 in
theorem ggX6_withdraw_X2_prepare : GoodIn wsX6_withdraw wsX2_prepare := goodIn_r _ [6, 7, 8, 9, 10, 4, 11, 12, 13, 14, 15, 16, 17, 18, 19, 20, 21, 22, 23, 24, 25, 26, 27, 28, 29, 30, 31, 32, 33, 34, 35, 36, 37, 97, 98, 99, 100, 101, 102, 103, 104, 105, 106, 107, 108, 109, 110, 111] (by decide +kernel) (by decide +kernel)
set_option maxRecDepth 20000 in
theorem gX6_withdraw_X2_prepare_n48 : GoodIn wsX6_withdraw (wsX2_prepare) := ggX6_withdraw_X2_prepare
set_option maxRecDepth 20000 in
theorem ggX6_withdraw_X0_takeBack : GoodIn wsX6_withdraw wsX0_takeBack := goodIn_r _ [40, 23, 24, 25, 14, 26, 17, 22, 41, 42, 43, 44, 45, 46, 47, 48, 18, 49, 50, 51, 52, 53, 54, 55, 56, 21, 57, 58, 59, 60, 20, 61, 62, 63, 64, 19, 65, 66, 67, 68, 69, 70, 71, 72, 73, 74, 75, 76, 77, 78, 79, 80, 81, 82, 105, 106, 107, 108, 109, 110, 111, 99, 100, 101, 102, 103, 104] (by decide +kernel) (by decide +kernel)
set_option maxRecDepth 20000 in
theorem gX6_withdraw_X0_takeBack_n67 : GoodIn wsX6_withdraw (wsX0_takeBack) := ggX6_withdraw_X0_takeBack
set_option maxRecDepth 20000 in
theorem ggX6_withdraw_X2_settle : GoodIn wsX6_withdraw wsX2_settle := goodIn_r _ [85, 7, 86, 87, 88, 4, 89, 12, 8, 9, 10, 11, 97, 98] (by decide +kernel) (by decide +kernel)
set_option maxRecDepth 20000 in
theorem gX6_withdraw_X2_settle_n56 : GoodIn wsX6_withdraw (wsX2_settle) := ggX6_withdraw_X2_settle
theorem dX6_withdraw_0 : decode cX6_withdraw 0 = .ok (.aload_n 0, 1) := by decide +kernel
theorem dX6_withdraw_1 : decode cX6_withdraw 1 = .ok (.getfield 40, 3) := by decide +kernel
theorem dX6_withdraw_4 : decode cX6_withdraw 4 = .ok (.aload_n 0, 1) := by decide +kernel
theorem dX6_withdraw_5 : decode cX6_withdraw 5 = .ok (.getfield 12, 3) := by decide +kernel
theorem dX6_withdraw_8 : decode cX6_withdraw 8 = .ok (.invokevirtual 48, 3) := by decide +kernel
theorem dX6_withdraw_11 : decode cX6_withdraw 11 = .ok (.aload_n 0, 1) := by decide +kernel
theorem dX6_withdraw_12 : decode cX6_withdraw 12 = .ok (.getfield 40, 3) := by decide +kernel
theorem dX6_withdraw_15 : decode cX6_withdraw 15 = .ok (.aload_n 0, 1) := by decide +kernel
theorem dX6_withdraw_16 : decode cX6_withdraw 16 = .ok (.getfield 12, 3) := by decide +kernel
theorem dX6_withdraw_19 : decode cX6_withdraw 19 = .ok (.iload_n 1, 1) := by decide +kernel
theorem dX6_withdraw_20 : decode cX6_withdraw 20 = .ok (.invokevirtual 67, 3) := by decide +kernel
theorem dX6_withdraw_23 : decode cX6_withdraw 23 = .ok (.invokevirtual 56, 3) := by decide +kernel
theorem dX6_withdraw_26 : decode cX6_withdraw 26 = .ok (.ireturn, 1) := by decide +kernel
set_option maxRecDepth 20000 in
theorem ggX6_renew_X2_prepare : GoodIn wsX6_renew wsX2_prepare := goodIn_r _ [6, 7, 8, 9, 10, 4, 11, 12, 13, 14, 15, 16, 17, 18, 19, 20, 21, 22, 23, 24, 25, 26, 27, 28, 29, 30, 31, 32, 33, 34, 35, 36, 37, 55, 56, 57, 58, 59, 60, 61, 62, 63, 64, 65, 66, 67, 68, 69] (by decide +kernel) (by decide +kernel)
set_option maxRecDepth 20000 in
theorem gX6_renew_X2_prepare_n48 : GoodIn wsX6_renew (wsX2_prepare) := ggX6_renew_X2_prepare
set_option maxRecDepth 20000 in
theorem ggX6_renew_X0_prolong : GoodIn wsX6_renew wsX0_prolong := goodIn_r _ [40, 18, 23, 24, 25, 14, 26, 17, 22, 63, 64, 65, 66, 67, 68, 69, 57, 58, 59, 60, 61, 62] (by decide +kernel) (by decide +kernel)
set_option maxRecDepth 20000 in
theorem gX6_renew_X0_prolong_n70 : GoodIn wsX6_renew (wsX0_prolong) := ggX6_renew_X0_prolong
set_option maxRecDepth 20000 in
theorem ggX6_renew_X2_settle : GoodIn wsX6_renew wsX2_settle := goodIn_r _ [43, 7, 44, 45, 46, 4, 47, 12, 8, 9, 10, 11, 55, 56] (by decide +kernel) (by decide +kernel)
set_option maxRecDepth 20000 in
theorem gX6_renew_X2_settle_n56 : GoodIn wsX6_renew (wsX2_settle) := ggX6_renew_X2_settle
theorem dX6_renew_0 : decode cX6_renew 0 = .ok (.aload_n 0, 1) := by decide +kernel
theorem dX6_renew_1 : decode cX6_renew 1 = .ok (.getfield 40, 3) := by decide +kernel
theorem dX6_renew_4 : decode cX6_renew 4 = .ok (.aload_n 0, 1) := by decide +kernel
theorem dX6_renew_5 : decode cX6_renew 5 = .ok (.getfield 12, 3) := by decide +kernel
theorem dX6_renew_8 : decode cX6_renew 8 = .ok (.invokevirtual 48, 3) := by decide +kernel
theorem dX6_renew_11 : decode cX6_renew 11 = .ok (.aload_n 0, 1) := by decide +kernel
theorem dX6_renew_12 : decode cX6_renew 12 = .ok (.getfield 40, 3) := by decide +kernel
theorem dX6_renew_15 : decode cX6_renew 15 = .ok (.aload_n 0, 1) := by decide +kernel
theorem dX6_renew_16 : decode cX6_renew 16 = .ok (.getfield 12, 3) := by decide +kernel
theorem dX6_renew_19 : decode cX6_renew 19 = .ok (.iload_n 1, 1) := by decide +kernel
theorem dX6_renew_20 : decode cX6_renew 20 = .ok (.invokevirtual 70, 3) := by decide +kernel
theorem dX6_renew_23 : decode cX6_renew 23 = .ok (.invokevirtual 56, 3) := by decide +kernel
theorem dX6_renew_26 : decode cX6_renew 26 = .ok (.ireturn, 1) := by decide +kernel
set_option maxRecDepth 20000 in
theorem ggX6_overrule_X2_prepare : GoodIn wsX6_overrule wsX2_prepare := goodIn_r _ [6, 7, 8, 9, 10, 4, 11, 12, 13, 14, 15, 16, 17, 18, 19, 20, 21, 22, 23, 24, 25, 26, 27, 28, 29, 30, 31, 32, 33, 34, 35, 36, 37, 58, 59, 60, 61, 62, 63, 64, 65, 66, 67, 68, 69, 70, 71, 72] (by decide +kernel) (by decide +kernel)
set_option maxRecDepth 20000 in
theorem gX6_overrule_X2_prepare_n48 : GoodIn wsX6_overrule (wsX2_prepare) := ggX6_overrule_X2_prepare
set_option maxRecDepth 20000 in
theorem ggX6_overrule_X0_turnCase : GoodIn wsX6_overrule wsX0_turnCase := goodIn_r _ [40, 19, 41, 42, 43, 60, 61, 62, 63, 64, 65] (by decide +kernel) (by decide +kernel)
set_option maxRecDepth 20000 in
theorem gX6_overrule_X0_turnCase_n73 : GoodIn wsX6_overrule (wsX0_turnCase) := ggX6_overrule_X0_turnCase
set_option maxRecDepth 20000 in
theorem ggX6_overrule_X2_settle : GoodIn wsX6_overrule wsX2_settle := goodIn_r _ [46, 7, 47, 48, 49, 4, 50, 12, 8, 9, 10, 11, 58, 59] (by decide +kernel) (by decide +kernel)
set_option maxRecDepth 20000 in
theorem gX6_overrule_X2_settle_n56 : GoodIn wsX6_overrule (wsX2_settle) := ggX6_overrule_X2_settle
theorem dX6_overrule_0 : decode cX6_overrule 0 = .ok (.aload_n 0, 1) := by decide +kernel
theorem dX6_overrule_1 : decode cX6_overrule 1 = .ok (.getfield 40, 3) := by decide +kernel
theorem dX6_overrule_4 : decode cX6_overrule 4 = .ok (.aload_n 0, 1) := by decide +kernel
theorem dX6_overrule_5 : decode cX6_overrule 5 = .ok (.getfield 12, 3) := by decide +kernel
theorem dX6_overrule_8 : decode cX6_overrule 8 = .ok (.invokevirtual 48, 3) := by decide +kernel
theorem dX6_overrule_11 : decode cX6_overrule 11 = .ok (.aload_n 0, 1) := by decide +kernel
theorem dX6_overrule_12 : decode cX6_overrule 12 = .ok (.getfield 40, 3) := by decide +kernel
theorem dX6_overrule_15 : decode cX6_overrule 15 = .ok (.aload_n 0, 1) := by decide +kernel
theorem dX6_overrule_16 : decode cX6_overrule 16 = .ok (.getfield 12, 3) := by decide +kernel
theorem dX6_overrule_19 : decode cX6_overrule 19 = .ok (.iload_n 1, 1) := by decide +kernel
theorem dX6_overrule_20 : decode cX6_overrule 20 = .ok (.invokevirtual 73, 3) := by decide +kernel
theorem dX6_overrule_23 : decode cX6_overrule 23 = .ok (.invokevirtual 56, 3) := by decide +kernel
theorem dX6_overrule_26 : decode cX6_overrule 26 = .ok (.ireturn, 1) := by decide +kernel
set_option maxRecDepth 20000 in
theorem ggX6_pass_X2_prepare : GoodIn wsX6_pass wsX2_prepare := goodIn_r _ [6, 7, 8, 9, 10, 4, 11, 12, 13, 14, 15, 16, 17, 18, 19, 20, 21, 22, 23, 24, 25, 26, 27, 28, 29, 30, 31, 32, 33, 34, 35, 36, 37, 97, 98, 99, 100, 101, 102, 103, 104, 105, 106, 107, 108, 109, 110, 111] (by decide +kernel) (by decide +kernel)
set_option maxRecDepth 20000 in
theorem gX6_pass_X2_prepare_n48 : GoodIn wsX6_pass (wsX2_prepare) := ggX6_pass_X2_prepare
set_option maxRecDepth 20000 in
theorem ggX6_pass_X0_moveOn : GoodIn wsX6_pass wsX0_moveOn := goodIn_r _ [40, 18, 41, 42, 43, 14, 44, 45, 46, 47, 48, 49, 50, 51, 52, 17, 23, 24, 25, 26, 22, 53, 54, 55, 56, 21, 57, 58, 59, 60, 20, 61, 62, 63, 64, 19, 65, 66, 67, 68, 69, 70, 71, 72, 73, 74, 75, 76, 77, 78, 79, 80, 81, 82, 99, 100, 101, 102, 103, 104, 105, 106, 107, 108, 109, 110, 111] (by decide +kernel) (by decide +kernel)
set_option maxRecDepth 20000 in
theorem gX6_pass_X0_moveOn_n76 : GoodIn wsX6_pass (wsX0_moveOn) := ggX6_pass_X0_moveOn
set_option maxRecDepth 20000 in
theorem ggX6_pass_X2_settle : GoodIn wsX6_pass wsX2_settle := goodIn_r _ [85, 7, 86, 87, 88, 4, 89, 12, 8, 9, 10, 11, 97, 98] (by decide +kernel) (by decide +kernel)
set_option maxRecDepth 20000 in
theorem gX6_pass_X2_settle_n56 : GoodIn wsX6_pass (wsX2_settle) := ggX6_pass_X2_settle
theorem dX6_pass_0 : decode cX6_pass 0 = .ok (.aload_n 0, 1) := by decide +kernel
theorem dX6_pass_1 : decode cX6_pass 1 = .ok (.getfield 40, 3) := by decide +kernel
theorem dX6_pass_4 : decode cX6_pass 4 = .ok (.aload_n 0, 1) := by decide +kernel
theorem dX6_pass_5 : decode cX6_pass 5 = .ok (.getfield 12, 3) := by decide +kernel
theorem dX6_pass_8 : decode cX6_pass 8 = .ok (.invokevirtual 48, 3) := by decide +kernel
theorem dX6_pass_11 : decode cX6_pass 11 = .ok (.aload_n 0, 1) := by decide +kernel
theorem dX6_pass_12 : decode cX6_pass 12 = .ok (.getfield 40, 3) := by decide +kernel
theorem dX6_pass_15 : decode cX6_pass 15 = .ok (.aload_n 0, 1) := by decide +kernel
theorem dX6_pass_16 : decode cX6_pass 16 = .ok (.getfield 12, 3) := by decide +kernel
theorem dX6_pass_19 : decode cX6_pass 19 = .ok (.iload_n 1, 1) := by decide +kernel
theorem dX6_pass_20 : decode cX6_pass 20 = .ok (.invokevirtual 76, 3) := by decide +kernel
theorem dX6_pass_23 : decode cX6_pass 23 = .ok (.invokevirtual 56, 3) := by decide +kernel
theorem dX6_pass_26 : decode cX6_pass 26 = .ok (.ireturn, 1) := by decide +kernel
set_option maxRecDepth 20000 in
theorem ggX6_of_X0_find : GoodIn wsX6_of wsX0_find := goodIn_r _ [5, 6, 7, 78, 79, 80, 81, 82, 83] (by decide +kernel) (by decide +kernel)
set_option maxRecDepth 20000 in
theorem gX6_of_X0_find_n79 : GoodIn wsX6_of (wsX0_find) := ggX6_of_X0_find
set_option maxRecDepth 20000 in
theorem ggX6_of_X0_standing : GoodIn wsX6_of wsX0_standing := goodIn_r _ [10, 11, 12, 13, 3, 14, 15, 16, 17, 18, 19, 6, 20, 2, 4, 5, 7, 21, 22, 23, 24, 25, 26, 27, 28, 29, 30, 31, 32, 33, 34, 35, 36, 37, 38, 39, 40, 41, 42, 43, 44, 45, 46, 78, 79, 80, 81, 82, 83, 71, 72, 73, 74, 75, 76, 77] (by decide +kernel) (by decide +kernel)
set_option maxRecDepth 20000 in
theorem gX6_of_X0_standing_n101 : GoodIn wsX6_of (wsX0_standing) := ggX6_of_X0_standing
set_option maxRecDepth 20000 in
theorem ggX6_of_X6_has : GoodIn wsX6_of wsX6_has := goodIn_r _ [42] (by decide +kernel) (by decide +kernel)
set_option maxRecDepth 20000 in
theorem gX6_of_X6_has : GoodIn wsX6_of (va_wsS RX6 105 yX6_has wsX6_has) := goodIn_app (goodIn_of _ (by decide +kernel)) ggX6_of_X6_has
set_option maxRecDepth 20000 in
theorem ggX6_of_X0_reasonAgainst : GoodIn wsX6_of wsX0_reasonAgainst := goodIn_r _ [50, 15, 16, 17, 18, 3, 19, 6, 20, 2, 4, 5, 7, 40, 41, 42, 21, 22, 23, 24, 25, 26, 27, 28, 29, 30, 31, 32, 33, 34, 35, 51, 8, 9, 10, 11, 12, 13, 14, 36, 37, 38, 39, 43, 44, 45, 46, 78, 79, 80, 81, 82, 83, 71, 72, 73, 74, 75, 76, 77] (by decide +kernel) (by decide +kernel)
set_option maxRecDepth 20000 in
theorem gX6_of_X0_reasonAgainst_n109 : GoodIn wsX6_of (wsX0_reasonAgainst) := ggX6_of_X0_reasonAgainst
set_option maxRecDepth 20000 in
theorem ggX6_of_X0_answersTo : GoodIn wsX6_of wsX0_answersTo := goodIn_r _ [54, 6, 20, 2, 4, 3, 5, 7, 78, 79, 80, 81, 82, 83, 71, 72, 73, 74, 75, 76, 77] (by decide +kernel) (by decide +kernel)
set_option maxRecDepth 20000 in
theorem gX6_of_X0_answersTo_n112 : GoodIn wsX6_of (wsX0_answersTo) := ggX6_of_X0_answersTo
set_option maxRecDepth 20000 in
theorem ggX6_of_X6_lowestOf : GoodIn wsX6_of wsX6_lowestOf := goodIn_r _ [57, 47, 40, 41, 42] (by decide +kernel) (by decide +kernel)
set_option maxRecDepth 20000 in
theorem gX6_of_X6_lowestOf : GoodIn wsX6_of (va_wsS RX6 115 yX6_lowestOf wsX6_lowestOf) := goodIn_app (goodIn_of _ (by decide +kernel)) ggX6_of_X6_lowestOf
set_option maxRecDepth 20000 in
theorem ggX6_of_X0_depthOf : GoodIn wsX6_of wsX0_depthOf := goodIn_r _ [60, 20, 2, 4, 3, 5, 6, 7, 71, 72, 73, 74, 75, 76, 77, 78, 79, 80, 81, 82, 83] (by decide +kernel) (by decide +kernel)
set_option maxRecDepth 20000 in
theorem gX6_of_X0_depthOf_n118 : GoodIn wsX6_of (wsX0_depthOf) := ggX6_of_X0_depthOf
set_option maxRecDepth 20000 in
theorem ggX6_of_X0_daysLeft : GoodIn wsX6_of wsX0_daysLeft := goodIn_r _ [63, 30, 15, 71, 72, 73, 74, 75, 76, 77, 78, 79, 80, 81, 82, 83] (by decide +kernel) (by decide +kernel)
set_option maxRecDepth 20000 in
theorem gX6_of_X0_daysLeft_n121 : GoodIn wsX6_of (wsX0_daysLeft) := ggX6_of_X0_daysLeft
theorem dX6_of_0 : decode cX6_of 0 = .ok (.aload_n 0, 1) := by decide +kernel
theorem dX6_of_1 : decode cX6_of 1 = .ok (.getfield 12, 3) := by decide +kernel
theorem dX6_of_4 : decode cX6_of 4 = .ok (.iload_n 1, 1) := by decide +kernel
theorem dX6_of_5 : decode cX6_of 5 = .ok (.invokevirtual 79, 3) := by decide +kernel
theorem dX6_of_8 : decode cX6_of 8 = .ok (.astore_n 3, 1) := by decide +kernel
theorem dX6_of_9 : decode cX6_of 9 = .ok (.aload_n 3, 1) := by decide +kernel
theorem dX6_of_10 : decode cX6_of 10 = .ok (.ifnonnull 5, 3) := by decide +kernel
theorem dX6_of_13 : decode cX6_of 13 = .ok (.iconst (-1), 1) := by decide +kernel
theorem dX6_of_14 : decode cX6_of 14 = .ok (.ireturn, 1) := by decide +kernel
theorem dX6_of_15 : decode cX6_of 15 = .ok (.iload_n 2, 1) := by decide +kernel
theorem dX6_of_16 : decode cX6_of 16 = .ok (.tableswitch 161 0 10 #[60, 65, 70, 75, 80, 85, 105, 114, 134, 143, 152], 60) := by decide +kernel
theorem dX6_of_76 : decode cX6_of 76 = .ok (.aload_n 3, 1) := by decide +kernel
theorem dX6_of_77 : decode cX6_of 77 = .ok (.getfield 83, 3) := by decide +kernel
theorem dX6_of_80 : decode cX6_of 80 = .ok (.ireturn, 1) := by decide +kernel
theorem dX6_of_81 : decode cX6_of 81 = .ok (.aload_n 3, 1) := by decide +kernel
theorem dX6_of_82 : decode cX6_of 82 = .ok (.getfield 89, 3) := by decide +kernel
theorem dX6_of_85 : decode cX6_of 85 = .ok (.ireturn, 1) := by decide +kernel
theorem dX6_of_86 : decode cX6_of 86 = .ok (.aload_n 3, 1) := by decide +kernel
theorem dX6_of_87 : decode cX6_of 87 = .ok (.getfield 92, 3) := by decide +kernel
theorem dX6_of_90 : decode cX6_of 90 = .ok (.ireturn, 1) := by decide +kernel
theorem dX6_of_91 : decode cX6_of 91 = .ok (.aload_n 3, 1) := by decide +kernel
theorem dX6_of_92 : decode cX6_of 92 = .ok (.getfield 95, 3) := by decide +kernel
theorem dX6_of_95 : decode cX6_of 95 = .ok (.ireturn, 1) := by decide +kernel
theorem dX6_of_96 : decode cX6_of 96 = .ok (.aload_n 3, 1) := by decide +kernel
theorem dX6_of_97 : decode cX6_of 97 = .ok (.getfield 98, 3) := by decide +kernel
theorem dX6_of_100 : decode cX6_of 100 = .ok (.ireturn, 1) := by decide +kernel
theorem dX6_of_101 : decode cX6_of 101 = .ok (.aload_n 0, 1) := by decide +kernel
theorem dX6_of_102 : decode cX6_of 102 = .ok (.getfield 12, 3) := by decide +kernel
theorem dX6_of_105 : decode cX6_of 105 = .ok (.invokevirtual 101, 3) := by decide +kernel
theorem dX6_of_108 : decode cX6_of 108 = .ok (.iload_n 1, 1) := by decide +kernel
theorem dX6_of_109 : decode cX6_of 109 = .ok (.invokestatic 105, 3) := by decide +kernel
theorem dX6_of_112 : decode cX6_of 112 = .ok (.ifCond .eq 7, 3) := by decide +kernel
theorem dX6_of_115 : decode cX6_of 115 = .ok (.iconst 1, 1) := by decide +kernel
theorem dX6_of_116 : decode cX6_of 116 = .ok (.goto 4, 3) := by decide +kernel
theorem dX6_of_119 : decode cX6_of 119 = .ok (.iconst 0, 1) := by decide +kernel
theorem dX6_of_120 : decode cX6_of 120 = .ok (.ireturn, 1) := by decide +kernel
theorem dX6_of_121 : decode cX6_of 121 = .ok (.aload_n 0, 1) := by decide +kernel
theorem dX6_of_122 : decode cX6_of 122 = .ok (.getfield 12, 3) := by decide +kernel
theorem dX6_of_125 : decode cX6_of 125 = .ok (.iload_n 1, 1) := by decide +kernel
theorem dX6_of_126 : decode cX6_of 126 = .ok (.invokevirtual 109, 3) := by decide +kernel
theorem dX6_of_129 : decode cX6_of 129 = .ok (.ireturn, 1) := by decide +kernel
theorem dX6_of_130 : decode cX6_of 130 = .ok (.aload_n 0, 1) := by decide +kernel
theorem dX6_of_131 : decode cX6_of 131 = .ok (.getfield 12, 3) := by decide +kernel
theorem dX6_of_134 : decode cX6_of 134 = .ok (.iload_n 1, 1) := by decide +kernel
theorem dX6_of_135 : decode cX6_of 135 = .ok (.invokevirtual 112, 3) := by decide +kernel
theorem dX6_of_138 : decode cX6_of 138 = .ok (.aload_n 0, 1) := by decide +kernel
theorem dX6_of_139 : decode cX6_of 139 = .ok (.getfield 12, 3) := by decide +kernel
theorem dX6_of_142 : decode cX6_of 142 = .ok (.invokevirtual 101, 3) := by decide +kernel
theorem dX6_of_145 : decode cX6_of 145 = .ok (.iand, 1) := by decide +kernel
theorem dX6_of_146 : decode cX6_of 146 = .ok (.invokestatic 115, 3) := by decide +kernel
theorem dX6_of_149 : decode cX6_of 149 = .ok (.ireturn, 1) := by decide +kernel
theorem dX6_of_150 : decode cX6_of 150 = .ok (.aload_n 0, 1) := by decide +kernel
theorem dX6_of_151 : decode cX6_of 151 = .ok (.getfield 12, 3) := by decide +kernel
theorem dX6_of_154 : decode cX6_of 154 = .ok (.iload_n 1, 1) := by decide +kernel
theorem dX6_of_155 : decode cX6_of 155 = .ok (.invokevirtual 112, 3) := by decide +kernel
theorem dX6_of_158 : decode cX6_of 158 = .ok (.ireturn, 1) := by decide +kernel
theorem dX6_of_159 : decode cX6_of 159 = .ok (.aload_n 0, 1) := by decide +kernel
theorem dX6_of_160 : decode cX6_of 160 = .ok (.getfield 12, 3) := by decide +kernel
theorem dX6_of_163 : decode cX6_of 163 = .ok (.iload_n 1, 1) := by decide +kernel
theorem dX6_of_164 : decode cX6_of 164 = .ok (.invokevirtual 118, 3) := by decide +kernel
theorem dX6_of_167 : decode cX6_of 167 = .ok (.ireturn, 1) := by decide +kernel
theorem dX6_of_168 : decode cX6_of 168 = .ok (.aload_n 0, 1) := by decide +kernel
theorem dX6_of_169 : decode cX6_of 169 = .ok (.getfield 12, 3) := by decide +kernel
theorem dX6_of_172 : decode cX6_of 172 = .ok (.aload_n 3, 1) := by decide +kernel
theorem dX6_of_173 : decode cX6_of 173 = .ok (.invokevirtual 121, 3) := by decide +kernel
theorem dX6_of_176 : decode cX6_of 176 = .ok (.ireturn, 1) := by decide +kernel
theorem dX6_of_177 : decode cX6_of 177 = .ok (.bipush (-2), 2) := by decide +kernel
theorem dX6_of_179 : decode cX6_of 179 = .ok (.ireturn, 1) := by decide +kernel
set_option maxRecDepth 20000 in
theorem ggX6_count_X0_claims : GoodIn wsX6_count wsX0_claims := goodIn_r _ [7, 8, 9, 10, 5, 11, 12, 13, 14, 15, 16, 17, 81, 82, 83, 84, 85, 86, 91, 92, 93, 94, 95, 96, 97] (by decide +kernel) (by decide +kernel)
set_option maxRecDepth 20000 in
theorem gX6_count_X0_claims_n131 : GoodIn wsX6_count (wsX0_claims) := ggX6_count_X0_claims
set_option maxRecDepth 20000 in
theorem ggX6_count_J6_bitCount_0f7a4 : GoodIn wsX6_count wsJ6_bitCount_0f7a4 := goodIn_r _ [21, 22, 23, 24] (by decide +kernel) (by decide +kernel)
set_option maxRecDepth 20000 in
theorem gX6_count_J6_bitCount_0f7a4 : GoodIn wsX6_count (va_wsS RX6 134 yJ6_bitCount_0f7a4 wsJ6_bitCount_0f7a4) := goodIn_app (goodIn_of _ (by decide +kernel)) ggX6_count_J6_bitCount_0f7a4
set_option maxRecDepth 20000 in
theorem ggX6_count_X0_standing : GoodIn wsX6_count wsX0_standing := goodIn_r _ [27, 28, 29, 30, 5, 31, 32, 33, 34, 35, 36, 12, 13, 14, 15, 16, 17, 37, 38, 39, 40, 41, 42, 43, 44, 45, 46, 47, 48, 49, 50, 51, 52, 53, 54, 55, 56, 57, 58, 59, 60, 61, 62, 81, 82, 83, 84, 85, 86, 91, 92, 93, 94, 95, 96, 97] (by decide +kernel) (by decide +kernel)
set_option maxRecDepth 20000 in
theorem gX6_count_X0_standing_n101 : GoodIn wsX6_count (wsX0_standing) := ggX6_count_X0_standing
set_option maxRecDepth 20000 in
theorem ggX6_count_X0_out : GoodIn wsX6_count wsX0_out := goodIn_r _ [31, 32, 33, 34, 35, 5, 36, 12, 13, 14, 15, 16, 17, 37, 38, 39, 40, 41, 42, 43, 44, 45, 46, 47, 48, 49, 50, 51, 81, 82, 83, 84, 85, 86, 91, 92, 93, 94, 95, 96, 97] (by decide +kernel) (by decide +kernel)
set_option maxRecDepth 20000 in
theorem gX6_count_X0_out_n139 : GoodIn wsX6_count (wsX0_out) := ggX6_count_X0_out
set_option maxRecDepth 20000 in
theorem ggX6_count_X0_answered : GoodIn wsX6_count wsX0_answered := goodIn_r _ [65, 66, 67, 68, 5, 69, 12, 28, 29, 30, 31, 32, 33, 34, 35, 36, 13, 14, 15, 16, 17, 37, 38, 39, 40, 41, 42, 43, 44, 45, 46, 47, 48, 49, 50, 51, 70, 25, 26, 27, 52, 53, 54, 55, 56, 57, 58, 59, 60, 61, 62, 81, 82, 83, 84, 85, 86, 91, 92, 93, 94, 95, 96, 97] (by decide +kernel) (by decide +kernel)
set_option maxRecDepth 20000 in
theorem gX6_count_X0_answered_n142 : GoodIn wsX6_count (wsX0_answered) := ggX6_count_X0_answered
set_option maxRecDepth 20000 in
theorem ggX6_count_X0_withdrawn : GoodIn wsX6_count wsX0_withdrawn := goodIn_r _ [36, 12, 13, 14, 15, 5, 16, 17, 81, 82, 83, 84, 85, 86, 91, 92, 93, 94, 95, 96, 97] (by decide +kernel) (by decide +kernel)
set_option maxRecDepth 20000 in
theorem gX6_count_X0_withdrawn_n145 : GoodIn wsX6_count (wsX0_withdrawn) := ggX6_count_X0_withdrawn
set_option maxRecDepth 20000 in
theorem ggX6_count_X0_struck : GoodIn wsX6_count wsX0_struck := goodIn_r _ [40, 12, 41, 13, 14, 15, 5, 16, 17, 81, 82, 83, 84, 85, 86, 91, 92, 93, 94, 95, 96, 97] (by decide +kernel) (by decide +kernel)
set_option maxRecDepth 20000 in
theorem gX6_count_X0_struck_n148 : GoodIn wsX6_count (wsX0_struck) := ggX6_count_X0_struck
set_option maxRecDepth 20000 in
theorem ggX6_count_X0_pagesOf : GoodIn wsX6_count wsX0_pagesOf := goodIn_r _ [73, 12, 13, 14, 15, 5, 16, 17, 56, 57, 58, 81, 82, 83, 84, 85, 86, 91, 92, 93, 94, 95, 96, 97] (by decide +kernel) (by decide +kernel)
set_option maxRecDepth 20000 in
theorem gX6_count_X0_pagesOf_n151 : GoodIn wsX6_count (wsX0_pagesOf) := ggX6_count_X0_pagesOf
theorem dX6_count_0 : decode cX6_count 0 = .ok (.iload_n 1, 1) := by decide +kernel
theorem dX6_count_1 : decode cX6_count 1 = .ok (.tableswitch 238 0 13 #[71, 79, 87, 98, 109, 128, 139, 150, 174, 198, 206, 214, 222, 230], 71) := by decide +kernel
theorem dX6_count_72 : decode cX6_count 72 = .ok (.aload_n 0, 1) := by decide +kernel
theorem dX6_count_73 : decode cX6_count 73 = .ok (.getfield 12, 3) := by decide +kernel
theorem dX6_count_76 : decode cX6_count 76 = .ok (.getfield 125, 3) := by decide +kernel
theorem dX6_count_79 : decode cX6_count 79 = .ok (.ireturn, 1) := by decide +kernel
theorem dX6_count_80 : decode cX6_count 80 = .ok (.aload_n 0, 1) := by decide +kernel
theorem dX6_count_81 : decode cX6_count 81 = .ok (.getfield 12, 3) := by decide +kernel
theorem dX6_count_84 : decode cX6_count 84 = .ok (.getfield 128, 3) := by decide +kernel
theorem dX6_count_87 : decode cX6_count 87 = .ok (.ireturn, 1) := by decide +kernel
theorem dX6_count_88 : decode cX6_count 88 = .ok (.aload_n 0, 1) := by decide +kernel
theorem dX6_count_89 : decode cX6_count 89 = .ok (.getfield 12, 3) := by decide +kernel
theorem dX6_count_92 : decode cX6_count 92 = .ok (.invokevirtual 131, 3) := by decide +kernel
theorem dX6_count_95 : decode cX6_count 95 = .ok (.invokestatic 134, 3) := by decide +kernel
theorem dX6_count_98 : decode cX6_count 98 = .ok (.ireturn, 1) := by decide +kernel
theorem dX6_count_99 : decode cX6_count 99 = .ok (.aload_n 0, 1) := by decide +kernel
theorem dX6_count_100 : decode cX6_count 100 = .ok (.getfield 12, 3) := by decide +kernel
theorem dX6_count_103 : decode cX6_count 103 = .ok (.invokevirtual 101, 3) := by decide +kernel
theorem dX6_count_106 : decode cX6_count 106 = .ok (.invokestatic 134, 3) := by decide +kernel
theorem dX6_count_109 : decode cX6_count 109 = .ok (.ireturn, 1) := by decide +kernel
theorem dX6_count_110 : decode cX6_count 110 = .ok (.aload_n 0, 1) := by decide +kernel
theorem dX6_count_111 : decode cX6_count 111 = .ok (.getfield 12, 3) := by decide +kernel
theorem dX6_count_114 : decode cX6_count 114 = .ok (.invokevirtual 131, 3) := by decide +kernel
theorem dX6_count_117 : decode cX6_count 117 = .ok (.aload_n 0, 1) := by decide +kernel
theorem dX6_count_118 : decode cX6_count 118 = .ok (.getfield 12, 3) := by decide +kernel
theorem dX6_count_121 : decode cX6_count 121 = .ok (.invokevirtual 101, 3) := by decide +kernel
theorem dX6_count_124 : decode cX6_count 124 = .ok (.iand, 1) := by decide +kernel
theorem dX6_count_125 : decode cX6_count 125 = .ok (.invokestatic 134, 3) := by decide +kernel
theorem dX6_count_128 : decode cX6_count 128 = .ok (.ireturn, 1) := by decide +kernel
theorem dX6_count_129 : decode cX6_count 129 = .ok (.aload_n 0, 1) := by decide +kernel
theorem dX6_count_130 : decode cX6_count 130 = .ok (.getfield 12, 3) := by decide +kernel
theorem dX6_count_133 : decode cX6_count 133 = .ok (.invokevirtual 139, 3) := by decide +kernel
theorem dX6_count_136 : decode cX6_count 136 = .ok (.invokestatic 134, 3) := by decide +kernel
theorem dX6_count_139 : decode cX6_count 139 = .ok (.ireturn, 1) := by decide +kernel
theorem dX6_count_140 : decode cX6_count 140 = .ok (.aload_n 0, 1) := by decide +kernel
theorem dX6_count_141 : decode cX6_count 141 = .ok (.getfield 12, 3) := by decide +kernel
theorem dX6_count_144 : decode cX6_count 144 = .ok (.invokevirtual 142, 3) := by decide +kernel
theorem dX6_count_147 : decode cX6_count 147 = .ok (.invokestatic 134, 3) := by decide +kernel
theorem dX6_count_150 : decode cX6_count 150 = .ok (.ireturn, 1) := by decide +kernel
theorem dX6_count_151 : decode cX6_count 151 = .ok (.aload_n 0, 1) := by decide +kernel
theorem dX6_count_152 : decode cX6_count 152 = .ok (.getfield 12, 3) := by decide +kernel
theorem dX6_count_155 : decode cX6_count 155 = .ok (.iconst 0, 1) := by decide +kernel
theorem dX6_count_156 : decode cX6_count 156 = .ok (.aload_n 0, 1) := by decide +kernel
theorem dX6_count_157 : decode cX6_count 157 = .ok (.getfield 12, 3) := by decide +kernel
theorem dX6_count_160 : decode cX6_count 160 = .ok (.invokevirtual 145, 3) := by decide +kernel
theorem dX6_count_163 : decode cX6_count 163 = .ok (.aload_n 0, 1) := by decide +kernel
theorem dX6_count_164 : decode cX6_count 164 = .ok (.getfield 12, 3) := by decide +kernel
theorem dX6_count_167 : decode cX6_count 167 = .ok (.invokevirtual 148, 3) := by decide +kernel
theorem dX6_count_170 : decode cX6_count 170 = .ok (.ior, 1) := by decide +kernel
theorem dX6_count_171 : decode cX6_count 171 = .ok (.invokevirtual 151, 3) := by decide +kernel
theorem dX6_count_174 : decode cX6_count 174 = .ok (.ireturn, 1) := by decide +kernel
theorem dX6_count_175 : decode cX6_count 175 = .ok (.aload_n 0, 1) := by decide +kernel
theorem dX6_count_176 : decode cX6_count 176 = .ok (.getfield 12, 3) := by decide +kernel
theorem dX6_count_179 : decode cX6_count 179 = .ok (.iconst 1, 1) := by decide +kernel
theorem dX6_count_180 : decode cX6_count 180 = .ok (.aload_n 0, 1) := by decide +kernel
theorem dX6_count_181 : decode cX6_count 181 = .ok (.getfield 12, 3) := by decide +kernel
theorem dX6_count_184 : decode cX6_count 184 = .ok (.invokevirtual 145, 3) := by decide +kernel
theorem dX6_count_187 : decode cX6_count 187 = .ok (.aload_n 0, 1) := by decide +kernel
theorem dX6_count_188 : decode cX6_count 188 = .ok (.getfield 12, 3) := by decide +kernel
theorem dX6_count_191 : decode cX6_count 191 = .ok (.invokevirtual 148, 3) := by decide +kernel
theorem dX6_count_194 : decode cX6_count 194 = .ok (.ior, 1) := by decide +kernel
theorem dX6_count_195 : decode cX6_count 195 = .ok (.invokevirtual 151, 3) := by decide +kernel
theorem dX6_count_198 : decode cX6_count 198 = .ok (.ireturn, 1) := by decide +kernel
theorem dX6_count_199 : decode cX6_count 199 = .ok (.aload_n 0, 1) := by decide +kernel
theorem dX6_count_200 : decode cX6_count 200 = .ok (.getfield 12, 3) := by decide +kernel
theorem dX6_count_203 : decode cX6_count 203 = .ok (.getfield 154, 3) := by decide +kernel
theorem dX6_count_206 : decode cX6_count 206 = .ok (.ireturn, 1) := by decide +kernel
theorem dX6_count_207 : decode cX6_count 207 = .ok (.aload_n 0, 1) := by decide +kernel
theorem dX6_count_208 : decode cX6_count 208 = .ok (.getfield 12, 3) := by decide +kernel
theorem dX6_count_211 : decode cX6_count 211 = .ok (.getfield 157, 3) := by decide +kernel
theorem dX6_count_214 : decode cX6_count 214 = .ok (.ireturn, 1) := by decide +kernel
theorem dX6_count_215 : decode cX6_count 215 = .ok (.aload_n 0, 1) := by decide +kernel
theorem dX6_count_216 : decode cX6_count 216 = .ok (.getfield 12, 3) := by decide +kernel
theorem dX6_count_219 : decode cX6_count 219 = .ok (.getfield 160, 3) := by decide +kernel
theorem dX6_count_222 : decode cX6_count 222 = .ok (.ireturn, 1) := by decide +kernel
theorem dX6_count_223 : decode cX6_count 223 = .ok (.aload_n 0, 1) := by decide +kernel
theorem dX6_count_224 : decode cX6_count 224 = .ok (.getfield 26, 3) := by decide +kernel
theorem dX6_count_227 : decode cX6_count 227 = .ok (.getfield 163, 3) := by decide +kernel
theorem dX6_count_230 : decode cX6_count 230 = .ok (.ireturn, 1) := by decide +kernel
theorem dX6_count_231 : decode cX6_count 231 = .ok (.aload_n 0, 1) := by decide +kernel
theorem dX6_count_232 : decode cX6_count 232 = .ok (.getfield 40, 3) := by decide +kernel
theorem dX6_count_235 : decode cX6_count 235 = .ok (.getfield 166, 3) := by decide +kernel
theorem dX6_count_238 : decode cX6_count 238 = .ok (.ireturn, 1) := by decide +kernel
theorem dX6_count_239 : decode cX6_count 239 = .ok (.bipush (-2), 2) := by decide +kernel
theorem dX6_count_241 : decode cX6_count 241 = .ok (.ireturn, 1) := by decide +kernel
set_option maxRecDepth 20000 in
theorem ggX6_points_X0_standing : GoodIn wsX6_points wsX0_standing := goodIn_r _ [5, 6, 7, 8, 3, 9, 10, 11, 12, 13, 14, 15, 16, 17, 18, 19, 20, 21, 22, 23, 24, 25, 26, 27, 28, 29, 30, 31, 32, 33, 34, 35, 36, 37, 38, 39, 40, 41, 42, 43, 44, 45, 46, 72, 73, 74, 75, 76, 77, 78, 79, 80, 81, 82, 83, 84] (by decide +kernel) (by decide +kernel)
set_option maxRecDepth 20000 in
theorem gX6_points_X0_standing_n101 : GoodIn wsX6_points (wsX0_standing) := ggX6_points_X0_standing
set_option maxRecDepth 20000 in
theorem ggX6_points_X0_claims : GoodIn wsX6_points wsX0_claims := goodIn_r _ [49, 50, 51, 52, 3, 53, 15, 16, 17, 18, 19, 20, 72, 73, 74, 75, 76, 77, 78, 79, 80, 81, 82, 83, 84] (by decide +kernel) (by decide +kernel)
set_option maxRecDepth 20000 in
theorem gX6_points_X0_claims_n131 : GoodIn wsX6_points (wsX0_claims) := ggX6_points_X0_claims
set_option maxRecDepth 20000 in
theorem ggX6_points_X0_out : GoodIn wsX6_points wsX0_out := goodIn_r _ [9, 10, 11, 12, 13, 3, 14, 15, 16, 17, 18, 19, 20, 21, 22, 23, 24, 25, 26, 27, 28, 29, 30, 31, 32, 33, 34, 35, 72, 73, 74, 75, 76, 77, 78, 79, 80, 81, 82, 83, 84] (by decide +kernel) (by decide +kernel)
set_option maxRecDepth 20000 in
theorem gX6_points_X0_out_n139 : GoodIn wsX6_points (wsX0_out) := ggX6_points_X0_out
set_option maxRecDepth 20000 in
theorem ggX6_points_X0_answered : GoodIn wsX6_points wsX0_answered := goodIn_r _ [56, 57, 58, 59, 3, 60, 15, 6, 7, 8, 9, 10, 11, 12, 13, 14, 16, 17, 18, 19, 20, 21, 22, 23, 24, 25, 26, 27, 28, 29, 30, 31, 32, 33, 34, 35, 61, 2, 4, 5, 36, 37, 38, 39, 40, 41, 42, 43, 44, 45, 46, 72, 73, 74, 75, 76, 77, 78, 79, 80, 81, 82, 83, 84] (by decide +kernel) (by decide +kernel)
set_option maxRecDepth 20000 in
theorem gX6_points_X0_answered_n142 : GoodIn wsX6_points (wsX0_answered) := ggX6_points_X0_answered
set_option maxRecDepth 20000 in
theorem ggX6_points_X0_ofSide : GoodIn wsX6_points wsX0_ofSide := goodIn_r _ [64, 15, 16, 17, 18, 3, 19, 20, 72, 73, 74, 75, 76, 77, 78, 79, 80, 81, 82, 83, 84] (by decide +kernel) (by decide +kernel)
set_option maxRecDepth 20000 in
theorem gX6_points_X0_ofSide_n169 : GoodIn wsX6_points (wsX0_ofSide) := ggX6_points_X0_ofSide
theorem dX6_points_0 : decode cX6_points 0 = .ok (.iload_n 1, 1) := by decide +kernel
theorem dX6_points_1 : decode cX6_points 1 = .ok (.tableswitch 97 0 5 #[39, 47, 63, 71, 79, 88], 39) := by decide +kernel
theorem dX6_points_40 : decode cX6_points 40 = .ok (.aload_n 0, 1) := by decide +kernel
theorem dX6_points_41 : decode cX6_points 41 = .ok (.getfield 12, 3) := by decide +kernel
theorem dX6_points_44 : decode cX6_points 44 = .ok (.invokevirtual 101, 3) := by decide +kernel
theorem dX6_points_47 : decode cX6_points 47 = .ok (.ireturn, 1) := by decide +kernel
theorem dX6_points_48 : decode cX6_points 48 = .ok (.aload_n 0, 1) := by decide +kernel
theorem dX6_points_49 : decode cX6_points 49 = .ok (.getfield 12, 3) := by decide +kernel
theorem dX6_points_52 : decode cX6_points 52 = .ok (.invokevirtual 131, 3) := by decide +kernel
theorem dX6_points_55 : decode cX6_points 55 = .ok (.aload_n 0, 1) := by decide +kernel
theorem dX6_points_56 : decode cX6_points 56 = .ok (.getfield 12, 3) := by decide +kernel
theorem dX6_points_59 : decode cX6_points 59 = .ok (.invokevirtual 101, 3) := by decide +kernel
theorem dX6_points_62 : decode cX6_points 62 = .ok (.iand, 1) := by decide +kernel
theorem dX6_points_63 : decode cX6_points 63 = .ok (.ireturn, 1) := by decide +kernel
theorem dX6_points_64 : decode cX6_points 64 = .ok (.aload_n 0, 1) := by decide +kernel
theorem dX6_points_65 : decode cX6_points 65 = .ok (.getfield 12, 3) := by decide +kernel
theorem dX6_points_68 : decode cX6_points 68 = .ok (.invokevirtual 139, 3) := by decide +kernel
theorem dX6_points_71 : decode cX6_points 71 = .ok (.ireturn, 1) := by decide +kernel
theorem dX6_points_72 : decode cX6_points 72 = .ok (.aload_n 0, 1) := by decide +kernel
theorem dX6_points_73 : decode cX6_points 73 = .ok (.getfield 12, 3) := by decide +kernel
theorem dX6_points_76 : decode cX6_points 76 = .ok (.invokevirtual 142, 3) := by decide +kernel
theorem dX6_points_79 : decode cX6_points 79 = .ok (.ireturn, 1) := by decide +kernel
theorem dX6_points_80 : decode cX6_points 80 = .ok (.aload_n 0, 1) := by decide +kernel
theorem dX6_points_81 : decode cX6_points 81 = .ok (.getfield 12, 3) := by decide +kernel
theorem dX6_points_84 : decode cX6_points 84 = .ok (.iconst 0, 1) := by decide +kernel
theorem dX6_points_85 : decode cX6_points 85 = .ok (.invokevirtual 169, 3) := by decide +kernel
theorem dX6_points_88 : decode cX6_points 88 = .ok (.ireturn, 1) := by decide +kernel
theorem dX6_points_89 : decode cX6_points 89 = .ok (.aload_n 0, 1) := by decide +kernel
theorem dX6_points_90 : decode cX6_points 90 = .ok (.getfield 12, 3) := by decide +kernel
theorem dX6_points_93 : decode cX6_points 93 = .ok (.iconst 1, 1) := by decide +kernel
theorem dX6_points_94 : decode cX6_points 94 = .ok (.invokevirtual 169, 3) := by decide +kernel
theorem dX6_points_97 : decode cX6_points 97 = .ok (.ireturn, 1) := by decide +kernel
theorem dX6_points_98 : decode cX6_points 98 = .ok (.bipush (-2), 2) := by decide +kernel
theorem dX6_points_100 : decode cX6_points 100 = .ok (.ireturn, 1) := by decide +kernel
set_option maxRecDepth 20000 in
theorem ggX6_share_X0_claims : GoodIn wsX6_share wsX0_claims := goodIn_r _ [5, 6, 7, 8, 3, 9, 10, 11, 12, 13, 14, 15, 76, 77, 78, 79, 80, 81, 82, 83, 84, 85, 86, 87, 88] (by decide +kernel) (by decide +kernel)
set_option maxRecDepth 20000 in
theorem gX6_share_X0_claims_n131 : GoodIn wsX6_share (wsX0_claims) := ggX6_share_X0_claims
set_option maxRecDepth 20000 in
theorem ggX6_share_X0_ofSide : GoodIn wsX6_share wsX0_ofSide := goodIn_r _ [18, 10, 11, 12, 13, 3, 14, 15, 76, 77, 78, 79, 80, 81, 82, 83, 84, 85, 86, 87, 88] (by decide +kernel) (by decide +kernel)
set_option maxRecDepth 20000 in
theorem gX6_share_X0_ofSide_n169 : GoodIn wsX6_share (wsX0_ofSide) := ggX6_share_X0_ofSide
set_option maxRecDepth 20000 in
theorem ggX6_share_X0_standing : GoodIn wsX6_share wsX0_standing := goodIn_r _ [21, 22, 23, 24, 3, 25, 26, 27, 28, 29, 30, 10, 11, 12, 13, 14, 15, 31, 32, 33, 34, 35, 36, 37, 38, 39, 40, 41, 42, 43, 44, 45, 46, 47, 48, 49, 50, 51, 52, 53, 54, 55, 56, 76, 77, 78, 79, 80, 81, 82, 83, 84, 85, 86, 87, 88] (by decide +kernel) (by decide +kernel)
set_option maxRecDepth 20000 in
theorem gX6_share_X0_standing_n101 : GoodIn wsX6_share (wsX0_standing) := ggX6_share_X0_standing
set_option maxRecDepth 20000 in
theorem ggX6_share_J6_bitCount_0f7a4 : GoodIn wsX6_share wsJ6_bitCount_0f7a4 := goodIn_r _ [60, 61, 62, 63] (by decide +kernel) (by decide +kernel)
set_option maxRecDepth 20000 in
theorem gX6_share_J6_bitCount_0f7a4 : GoodIn wsX6_share (va_wsS RX6 134 yJ6_bitCount_0f7a4 wsJ6_bitCount_0f7a4) := goodIn_app (goodIn_of _ (by decide +kernel)) ggX6_share_J6_bitCount_0f7a4
set_option maxRecDepth 20000 in
theorem ggX6_share_X6_floatBits : GoodIn wsX6_share wsX6_floatBits := goodIn_r _ [66, 67, 68] (by decide +kernel) (by decide +kernel)
set_option maxRecDepth 20000 in
theorem gX6_share_X6_floatBits : GoodIn wsX6_share (va_wsS RX6 172 yX6_floatBits wsX6_floatBits) := goodIn_app (goodIn_of _ (by decide +kernel)) ggX6_share_X6_floatBits
theorem dX6_share_0 : decode cX6_share 0 = .ok (.iload_n 1, 1) := by decide +kernel
theorem dX6_share_1 : decode cX6_share 1 = .ok (.ifCond .eq 10, 3) := by decide +kernel
theorem dX6_share_4 : decode cX6_share 4 = .ok (.iload_n 1, 1) := by decide +kernel
theorem dX6_share_5 : decode cX6_share 5 = .ok (.iconst 1, 1) := by decide +kernel
theorem dX6_share_6 : decode cX6_share 6 = .ok (.if_icmp .eq 5, 3) := by decide +kernel
theorem dX6_share_9 : decode cX6_share 9 = .ok (.iconst (-1), 1) := by decide +kernel
theorem dX6_share_10 : decode cX6_share 10 = .ok (.ireturn, 1) := by decide +kernel
theorem dX6_share_11 : decode cX6_share 11 = .ok (.aload_n 0, 1) := by decide +kernel
theorem dX6_share_12 : decode cX6_share 12 = .ok (.getfield 12, 3) := by decide +kernel
theorem dX6_share_15 : decode cX6_share 15 = .ok (.invokevirtual 131, 3) := by decide +kernel
theorem dX6_share_18 : decode cX6_share 18 = .ok (.aload_n 0, 1) := by decide +kernel
theorem dX6_share_19 : decode cX6_share 19 = .ok (.getfield 12, 3) := by decide +kernel
theorem dX6_share_22 : decode cX6_share 22 = .ok (.iload_n 1, 1) := by decide +kernel
theorem dX6_share_23 : decode cX6_share 23 = .ok (.invokevirtual 169, 3) := by decide +kernel
theorem dX6_share_26 : decode cX6_share 26 = .ok (.iand, 1) := by decide +kernel
theorem dX6_share_27 : decode cX6_share 27 = .ok (.istore_n 2, 1) := by decide +kernel
theorem dX6_share_28 : decode cX6_share 28 = .ok (.iload_n 2, 1) := by decide +kernel
theorem dX6_share_29 : decode cX6_share 29 = .ok (.ifCond .ne 6, 3) := by decide +kernel
theorem dX6_share_32 : decode cX6_share 32 = .ok (.bipush (-6), 2) := by decide +kernel
theorem dX6_share_34 : decode cX6_share 34 = .ok (.ireturn, 1) := by decide +kernel
theorem dX6_share_35 : decode cX6_share 35 = .ok (.iload_n 2, 1) := by decide +kernel
theorem dX6_share_36 : decode cX6_share 36 = .ok (.aload_n 0, 1) := by decide +kernel
theorem dX6_share_37 : decode cX6_share 37 = .ok (.getfield 12, 3) := by decide +kernel
theorem dX6_share_40 : decode cX6_share 40 = .ok (.invokevirtual 101, 3) := by decide +kernel
theorem dX6_share_43 : decode cX6_share 43 = .ok (.iand, 1) := by decide +kernel
theorem dX6_share_44 : decode cX6_share 44 = .ok (.invokestatic 134, 3) := by decide +kernel
theorem dX6_share_47 : decode cX6_share 47 = .ok (.iload_n 2, 1) := by decide +kernel
theorem dX6_share_48 : decode cX6_share 48 = .ok (.invokestatic 134, 3) := by decide +kernel
theorem dX6_share_51 : decode cX6_share 51 = .ok (.invokestatic 172, 3) := by decide +kernel
theorem dX6_share_54 : decode cX6_share 54 = .ok (.ireturn, 1) := by decide +kernel
set_option maxRecDepth 20000 in
theorem ggX6_toFall_X0_find : GoodIn wsX6_toFall wsX0_find := goodIn_r _ [6, 7, 8, 74, 75, 76, 77, 78, 79] (by decide +kernel) (by decide +kernel)
set_option maxRecDepth 20000 in
theorem gX6_toFall_X0_find_n79 : GoodIn wsX6_toFall (wsX0_find) := ggX6_toFall_X0_find
set_option maxRecDepth 20000 in
theorem ggX6_toFall_X1_weigh : GoodIn wsX6_toFall wsX1_weigh := goodIn_r _ [12, 13, 14, 15, 4, 16, 17, 18, 19, 20, 21, 22, 7, 23, 3, 5, 6, 8, 24, 25, 26, 27, 28, 29, 30, 31, 32, 33, 34, 35, 36, 37, 38, 39, 40, 41, 42, 43, 44, 45, 46, 47, 48, 49, 50, 51, 52, 53, 54, 55, 10, 56, 57, 58, 59, 60, 80, 81, 82, 83, 84, 85, 86, 87, 88, 74, 75, 76, 77, 78, 79] (by decide +kernel) (by decide +kernel)
set_option maxRecDepth 20000 in
theorem gX6_toFall_X1_weigh_n175 : GoodIn wsX6_toFall (wsX1_weigh) := ggX6_toFall_X1_weigh
set_option maxRecDepth 20000 in
theorem ggX6_toFall_X1_answersToFall : GoodIn wsX6_toFall wsX1_answersToFall := goodIn_r _ [63, 13, 64, 65, 10, 66, 80, 81] (by decide +kernel) (by decide +kernel)
set_option maxRecDepth 20000 in
theorem gX6_toFall_X1_answersToFall_n178 : GoodIn wsX6_toFall (wsX1_answersToFall) := ggX6_toFall_X1_answersToFall
theorem dX6_toFall_0 : decode cX6_toFall 0 = .ok (.aload_n 0, 1) := by decide +kernel
theorem dX6_toFall_1 : decode cX6_toFall 1 = .ok (.getfield 12, 3) := by decide +kernel
theorem dX6_toFall_4 : decode cX6_toFall 4 = .ok (.iload_n 1, 1) := by decide +kernel
theorem dX6_toFall_5 : decode cX6_toFall 5 = .ok (.invokevirtual 79, 3) := by decide +kernel
theorem dX6_toFall_8 : decode cX6_toFall 8 = .ok (.ifnonnull 5, 3) := by decide +kernel
theorem dX6_toFall_11 : decode cX6_toFall 11 = .ok (.iconst (-1), 1) := by decide +kernel
theorem dX6_toFall_12 : decode cX6_toFall 12 = .ok (.ireturn, 1) := by decide +kernel
theorem dX6_toFall_13 : decode cX6_toFall 13 = .ok (.aload_n 0, 1) := by decide +kernel
theorem dX6_toFall_14 : decode cX6_toFall 14 = .ok (.getfield 19, 3) := by decide +kernel
theorem dX6_toFall_17 : decode cX6_toFall 17 = .ok (.aload_n 0, 1) := by decide +kernel
theorem dX6_toFall_18 : decode cX6_toFall 18 = .ok (.getfield 12, 3) := by decide +kernel
theorem dX6_toFall_21 : decode cX6_toFall 21 = .ok (.invokevirtual 175, 3) := by decide +kernel
theorem dX6_toFall_24 : decode cX6_toFall 24 = .ok (.aload_n 0, 1) := by decide +kernel
theorem dX6_toFall_25 : decode cX6_toFall 25 = .ok (.getfield 19, 3) := by decide +kernel
theorem dX6_toFall_28 : decode cX6_toFall 28 = .ok (.iload_n 1, 1) := by decide +kernel
theorem dX6_toFall_29 : decode cX6_toFall 29 = .ok (.invokevirtual 178, 3) := by decide +kernel
theorem dX6_toFall_32 : decode cX6_toFall 32 = .ok (.ireturn, 1) := by decide +kernel
set_option maxRecDepth 20000 in
theorem ggX6_toStand_X0_find : GoodIn wsX6_toStand wsX0_find := goodIn_r _ [6, 7, 8, 75, 76, 77, 78, 79, 80] (by decide +kernel) (by decide +kernel)
set_option maxRecDepth 20000 in
theorem gX6_toStand_X0_find_n79 : GoodIn wsX6_toStand (wsX0_find) := ggX6_toStand_X0_find
set_option maxRecDepth 20000 in
theorem ggX6_toStand_X0_out : GoodIn wsX6_toStand wsX0_out := goodIn_r _ [11, 12, 13, 14, 15, 4, 16, 7, 17, 3, 5, 6, 8, 18, 19, 20, 21, 22, 23, 24, 25, 26, 27, 28, 29, 30, 31, 32, 75, 76, 77, 78, 79, 80, 81, 82, 83, 84, 85, 86, 87] (by decide +kernel) (by decide +kernel)
set_option maxRecDepth 20000 in
theorem gX6_toStand_X0_out_n139 : GoodIn wsX6_toStand (wsX0_out) := ggX6_toStand_X0_out
set_option maxRecDepth 20000 in
theorem ggX6_toStand_X6_has : GoodIn wsX6_toStand wsX6_has := goodIn_r _ [36] (by decide +kernel) (by decide +kernel)
set_option maxRecDepth 20000 in
theorem gX6_toStand_X6_has : GoodIn wsX6_toStand (va_wsS RX6 105 yX6_has wsX6_has) := goodIn_app (goodIn_of _ (by decide +kernel)) ggX6_toStand_X6_has
set_option maxRecDepth 20000 in
theorem ggX6_toStand_X1_weigh : GoodIn wsX6_toStand wsX1_weigh := goodIn_r _ [40, 41, 42, 9, 4, 10, 11, 12, 13, 14, 15, 16, 7, 17, 3, 5, 6, 8, 18, 19, 20, 21, 22, 23, 24, 25, 26, 27, 28, 29, 30, 31, 32, 43, 44, 45, 46, 47, 48, 49, 50, 51, 52, 53, 34, 35, 36, 54, 55, 56, 38, 57, 58, 59, 60, 61, 88, 89, 81, 82, 83, 84, 85, 86, 87, 75, 76, 77, 78, 79, 80] (by decide +kernel) (by decide +kernel)
set_option maxRecDepth 20000 in
theorem gX6_toStand_X1_weigh_n175 : GoodIn wsX6_toStand (wsX1_weigh) := ggX6_toStand_X1_weigh
set_option maxRecDepth 20000 in
theorem ggX6_toStand_X1_answersToStand : GoodIn wsX6_toStand wsX1_answersToStand := goodIn_r _ [64, 42, 65, 66, 38, 67, 88, 89] (by decide +kernel) (by decide +kernel)
set_option maxRecDepth 20000 in
theorem gX6_toStand_X1_answersToStand_n181 : GoodIn wsX6_toStand (wsX1_answersToStand) := ggX6_toStand_X1_answersToStand
theorem dX6_toStand_0 : decode cX6_toStand 0 = .ok (.aload_n 0, 1) := by decide +kernel
theorem dX6_toStand_1 : decode cX6_toStand 1 = .ok (.getfield 12, 3) := by decide +kernel
theorem dX6_toStand_4 : decode cX6_toStand 4 = .ok (.iload_n 1, 1) := by decide +kernel
theorem dX6_toStand_5 : decode cX6_toStand 5 = .ok (.invokevirtual 79, 3) := by decide +kernel
theorem dX6_toStand_8 : decode cX6_toStand 8 = .ok (.ifnonnull 5, 3) := by decide +kernel
theorem dX6_toStand_11 : decode cX6_toStand 11 = .ok (.iconst (-1), 1) := by decide +kernel
theorem dX6_toStand_12 : decode cX6_toStand 12 = .ok (.ireturn, 1) := by decide +kernel
theorem dX6_toStand_13 : decode cX6_toStand 13 = .ok (.aload_n 0, 1) := by decide +kernel
theorem dX6_toStand_14 : decode cX6_toStand 14 = .ok (.getfield 12, 3) := by decide +kernel
theorem dX6_toStand_17 : decode cX6_toStand 17 = .ok (.invokevirtual 139, 3) := by decide +kernel
theorem dX6_toStand_20 : decode cX6_toStand 20 = .ok (.iload_n 1, 1) := by decide +kernel
theorem dX6_toStand_21 : decode cX6_toStand 21 = .ok (.invokestatic 105, 3) := by decide +kernel
theorem dX6_toStand_24 : decode cX6_toStand 24 = .ok (.ifCond .eq 6, 3) := by decide +kernel
theorem dX6_toStand_27 : decode cX6_toStand 27 = .ok (.bipush (-5), 2) := by decide +kernel
theorem dX6_toStand_29 : decode cX6_toStand 29 = .ok (.ireturn, 1) := by decide +kernel
theorem dX6_toStand_30 : decode cX6_toStand 30 = .ok (.aload_n 0, 1) := by decide +kernel
theorem dX6_toStand_31 : decode cX6_toStand 31 = .ok (.getfield 19, 3) := by decide +kernel
theorem dX6_toStand_34 : decode cX6_toStand 34 = .ok (.aload_n 0, 1) := by decide +kernel
theorem dX6_toStand_35 : decode cX6_toStand 35 = .ok (.getfield 12, 3) := by decide +kernel
theorem dX6_toStand_38 : decode cX6_toStand 38 = .ok (.invokevirtual 175, 3) := by decide +kernel
theorem dX6_toStand_41 : decode cX6_toStand 41 = .ok (.aload_n 0, 1) := by decide +kernel
theorem dX6_toStand_42 : decode cX6_toStand 42 = .ok (.getfield 19, 3) := by decide +kernel
theorem dX6_toStand_45 : decode cX6_toStand 45 = .ok (.iload_n 1, 1) := by decide +kernel
theorem dX6_toStand_46 : decode cX6_toStand 46 = .ok (.invokevirtual 181, 3) := by decide +kernel
theorem dX6_toStand_49 : decode cX6_toStand 49 = .ok (.ireturn, 1) := by decide +kernel
set_option maxRecDepth 20000 in
theorem ggX6_bestAnswer_X0_out : GoodIn wsX6_bestAnswer wsX0_out := goodIn_r _ [5, 6, 7, 8, 9, 3, 10, 11, 12, 13, 14, 15, 16, 17, 18, 19, 20, 21, 22, 23, 24, 25, 26, 27, 28, 29, 30, 31, 71, 72, 73, 74, 75, 76, 77, 78, 79, 80, 81, 82, 83] (by decide +kernel) (by decide +kernel)
set_option maxRecDepth 20000 in
theorem gX6_bestAnswer_X0_out_n139 : GoodIn wsX6_bestAnswer (wsX0_out) := ggX6_bestAnswer_X0_out
set_option maxRecDepth 20000 in
theorem ggX6_bestAnswer_X0_standingIf : GoodIn wsX6_bestAnswer wsX0_standingIf := goodIn_r _ [34, 11, 35, 36, 37, 38, 39, 40, 3, 41, 12, 13, 14, 15, 16, 71, 72, 73, 74, 75, 76, 77, 78, 79, 80, 81, 82, 83] (by decide +kernel) (by decide +kernel)
set_option maxRecDepth 20000 in
theorem gX6_bestAnswer_X0_standingIf_n184 : GoodIn wsX6_bestAnswer (wsX0_standingIf) := ggX6_bestAnswer_X0_standingIf
set_option maxRecDepth 20000 in
theorem ggX6_bestAnswer_X0_withoutAnswers : GoodIn wsX6_bestAnswer wsX0_withoutAnswers := goodIn_r _ [44, 11, 45, 46, 47, 3, 48, 38, 39, 40, 41, 12, 13, 14, 15, 16, 71, 72, 73, 74, 75, 76, 77, 78, 79, 80, 81, 82, 83] (by decide +kernel) (by decide +kernel)
set_option maxRecDepth 20000 in
theorem gX6_bestAnswer_X0_withoutAnswers_n187 : GoodIn wsX6_bestAnswer (wsX0_withoutAnswers) := ggX6_bestAnswer_X0_withoutAnswers
set_option maxRecDepth 20000 in
theorem ggX6_bestAnswer_X6_has : GoodIn wsX6_bestAnswer wsX6_has := goodIn_r _ [37] (by decide +kernel) (by decide +kernel)
set_option maxRecDepth 20000 in
theorem gX6_bestAnswer_X6_has : GoodIn wsX6_bestAnswer (va_wsS RX6 105 yX6_has wsX6_has) := goodIn_app (goodIn_of _ (by decide +kernel)) ggX6_bestAnswer_X6_has
set_option maxRecDepth 20000 in
theorem ggX6_bestAnswer_X0_claims : GoodIn wsX6_bestAnswer wsX0_claims := goodIn_r _ [52, 53, 54, 55, 3, 56, 11, 12, 13, 14, 15, 16, 71, 72, 73, 74, 75, 76, 77, 78, 79, 80, 81, 82, 83] (by decide +kernel) (by decide +kernel)
set_option maxRecDepth 20000 in
theorem gX6_bestAnswer_X0_claims_n131 : GoodIn wsX6_bestAnswer (wsX0_claims) := ggX6_bestAnswer_X0_claims
set_option maxRecDepth 20000 in
theorem ggX6_bestAnswer_J6_bitCount_0f7a4 : GoodIn wsX6_bestAnswer wsJ6_bitCount_0f7a4 := goodIn_r _ [60, 61, 62, 63] (by decide +kernel) (by decide +kernel)
set_option maxRecDepth 20000 in
theorem gX6_bestAnswer_J6_bitCount_0f7a4 : GoodIn wsX6_bestAnswer (va_wsS RX6 134 yJ6_bitCount_0f7a4 wsJ6_bitCount_0f7a4) := goodIn_app (goodIn_of _ (by decide +kernel)) ggX6_bestAnswer_J6_bitCount_0f7a4
theorem dX6_bestAnswer_0 : decode cX6_bestAnswer 0 = .ok (.iload_n 1, 1) := by decide +kernel
theorem dX6_bestAnswer_1 : decode cX6_bestAnswer 1 = .ok (.ifCond .eq 11, 3) := by decide +kernel
theorem dX6_bestAnswer_4 : decode cX6_bestAnswer 4 = .ok (.iload_n 1, 1) := by decide +kernel
theorem dX6_bestAnswer_5 : decode cX6_bestAnswer 5 = .ok (.iconst 1, 1) := by decide +kernel
theorem dX6_bestAnswer_6 : decode cX6_bestAnswer 6 = .ok (.if_icmp .eq 6, 3) := by decide +kernel
theorem dX6_bestAnswer_9 : decode cX6_bestAnswer 9 = .ok (.bipush (-2), 2) := by decide +kernel
theorem dX6_bestAnswer_11 : decode cX6_bestAnswer 11 = .ok (.ireturn, 1) := by decide +kernel
theorem dX6_bestAnswer_12 : decode cX6_bestAnswer 12 = .ok (.bipush (-6), 2) := by decide +kernel
theorem dX6_bestAnswer_14 : decode cX6_bestAnswer 14 = .ok (.istore_n 2, 1) := by decide +kernel
theorem dX6_bestAnswer_15 : decode cX6_bestAnswer 15 = .ok (.bipush (-6), 2) := by decide +kernel
theorem dX6_bestAnswer_17 : decode cX6_bestAnswer 17 = .ok (.istore_n 3, 1) := by decide +kernel
theorem dX6_bestAnswer_18 : decode cX6_bestAnswer 18 = .ok (.aload_n 0, 1) := by decide +kernel
theorem dX6_bestAnswer_19 : decode cX6_bestAnswer 19 = .ok (.getfield 12, 3) := by decide +kernel
theorem dX6_bestAnswer_22 : decode cX6_bestAnswer 22 = .ok (.invokevirtual 139, 3) := by decide +kernel
theorem dX6_bestAnswer_25 : decode cX6_bestAnswer 25 = .ok (.istore 4, 2) := by decide +kernel
theorem dX6_bestAnswer_27 : decode cX6_bestAnswer 27 = .ok (.aload_n 0, 1) := by decide +kernel
theorem dX6_bestAnswer_28 : decode cX6_bestAnswer 28 = .ok (.getfield 12, 3) := by decide +kernel
theorem dX6_bestAnswer_31 : decode cX6_bestAnswer 31 = .ok (.iload 4, 2) := by decide +kernel
theorem dX6_bestAnswer_33 : decode cX6_bestAnswer 33 = .ok (.iconst 0, 1) := by decide +kernel
theorem dX6_bestAnswer_34 : decode cX6_bestAnswer 34 = .ok (.invokevirtual 184, 3) := by decide +kernel
theorem dX6_bestAnswer_37 : decode cX6_bestAnswer 37 = .ok (.istore 5, 2) := by decide +kernel
theorem dX6_bestAnswer_39 : decode cX6_bestAnswer 39 = .ok (.aload_n 0, 1) := by decide +kernel
theorem dX6_bestAnswer_40 : decode cX6_bestAnswer 40 = .ok (.getfield 12, 3) := by decide +kernel
theorem dX6_bestAnswer_43 : decode cX6_bestAnswer 43 = .ok (.invokevirtual 187, 3) := by decide +kernel
theorem dX6_bestAnswer_46 : decode cX6_bestAnswer 46 = .ok (.iload 4, 2) := by decide +kernel
theorem dX6_bestAnswer_48 : decode cX6_bestAnswer 48 = .ok (.iconst (-1), 1) := by decide +kernel
theorem dX6_bestAnswer_49 : decode cX6_bestAnswer 49 = .ok (.ixor, 1) := by decide +kernel
theorem dX6_bestAnswer_50 : decode cX6_bestAnswer 50 = .ok (.iand, 1) := by decide +kernel
theorem dX6_bestAnswer_51 : decode cX6_bestAnswer 51 = .ok (.istore 6, 2) := by decide +kernel
theorem dX6_bestAnswer_53 : decode cX6_bestAnswer 53 = .ok (.iconst 0, 1) := by decide +kernel
theorem dX6_bestAnswer_54 : decode cX6_bestAnswer 54 = .ok (.istore 7, 2) := by decide +kernel
theorem dX6_bestAnswer_56 : decode cX6_bestAnswer 56 = .ok (.iload 7, 2) := by decide +kernel
theorem dX6_bestAnswer_58 : decode cX6_bestAnswer 58 = .ok (.bipush 24, 2) := by decide +kernel
theorem dX6_bestAnswer_60 : decode cX6_bestAnswer 60 = .ok (.if_icmp .ge 60, 3) := by decide +kernel
theorem dX6_bestAnswer_63 : decode cX6_bestAnswer 63 = .ok (.iload 6, 2) := by decide +kernel
theorem dX6_bestAnswer_65 : decode cX6_bestAnswer 65 = .ok (.iload 7, 2) := by decide +kernel
theorem dX6_bestAnswer_67 : decode cX6_bestAnswer 67 = .ok (.invokestatic 105, 3) := by decide +kernel
theorem dX6_bestAnswer_70 : decode cX6_bestAnswer 70 = .ok (.ifCond .eq 44, 3) := by decide +kernel
theorem dX6_bestAnswer_73 : decode cX6_bestAnswer 73 = .ok (.aload_n 0, 1) := by decide +kernel
theorem dX6_bestAnswer_74 : decode cX6_bestAnswer 74 = .ok (.getfield 12, 3) := by decide +kernel
theorem dX6_bestAnswer_77 : decode cX6_bestAnswer 77 = .ok (.iload 4, 2) := by decide +kernel
theorem dX6_bestAnswer_79 : decode cX6_bestAnswer 79 = .ok (.iconst 1, 1) := by decide +kernel
theorem dX6_bestAnswer_80 : decode cX6_bestAnswer 80 = .ok (.iload 7, 2) := by decide +kernel
theorem dX6_bestAnswer_82 : decode cX6_bestAnswer 82 = .ok (.ishl, 1) := by decide +kernel
theorem dX6_bestAnswer_83 : decode cX6_bestAnswer 83 = .ok (.invokevirtual 184, 3) := by decide +kernel
theorem dX6_bestAnswer_86 : decode cX6_bestAnswer 86 = .ok (.iload 5, 2) := by decide +kernel
theorem dX6_bestAnswer_88 : decode cX6_bestAnswer 88 = .ok (.ixor, 1) := by decide +kernel
theorem dX6_bestAnswer_89 : decode cX6_bestAnswer 89 = .ok (.aload_n 0, 1) := by decide +kernel
theorem dX6_bestAnswer_90 : decode cX6_bestAnswer 90 = .ok (.getfield 12, 3) := by decide +kernel
theorem dX6_bestAnswer_93 : decode cX6_bestAnswer 93 = .ok (.invokevirtual 131, 3) := by decide +kernel
theorem dX6_bestAnswer_96 : decode cX6_bestAnswer 96 = .ok (.iand, 1) := by decide +kernel
theorem dX6_bestAnswer_97 : decode cX6_bestAnswer 97 = .ok (.invokestatic 134, 3) := by decide +kernel
theorem dX6_bestAnswer_100 : decode cX6_bestAnswer 100 = .ok (.istore 8, 2) := by decide +kernel
theorem dX6_bestAnswer_102 : decode cX6_bestAnswer 102 = .ok (.iload 8, 2) := by decide +kernel
theorem dX6_bestAnswer_104 : decode cX6_bestAnswer 104 = .ok (.iload_n 3, 1) := by decide +kernel
theorem dX6_bestAnswer_105 : decode cX6_bestAnswer 105 = .ok (.if_icmp .le 9, 3) := by decide +kernel
theorem dX6_bestAnswer_108 : decode cX6_bestAnswer 108 = .ok (.iload 7, 2) := by decide +kernel
theorem dX6_bestAnswer_110 : decode cX6_bestAnswer 110 = .ok (.istore_n 2, 1) := by decide +kernel
theorem dX6_bestAnswer_111 : decode cX6_bestAnswer 111 = .ok (.iload 8, 2) := by decide +kernel
theorem dX6_bestAnswer_113 : decode cX6_bestAnswer 113 = .ok (.istore_n 3, 1) := by decide +kernel
theorem dX6_bestAnswer_114 : decode cX6_bestAnswer 114 = .ok (.iinc 7 1, 3) := by decide +kernel
theorem dX6_bestAnswer_117 : decode cX6_bestAnswer 117 = .ok (.goto (-61), 3) := by decide +kernel
theorem dX6_bestAnswer_120 : decode cX6_bestAnswer 120 = .ok (.iload_n 1, 1) := by decide +kernel
theorem dX6_bestAnswer_121 : decode cX6_bestAnswer 121 = .ok (.ifCond .ne 7, 3) := by decide +kernel
theorem dX6_bestAnswer_124 : decode cX6_bestAnswer 124 = .ok (.iload_n 2, 1) := by decide +kernel
theorem dX6_bestAnswer_125 : decode cX6_bestAnswer 125 = .ok (.goto 4, 3) := by decide +kernel
theorem dX6_bestAnswer_128 : decode cX6_bestAnswer 128 = .ok (.iload_n 3, 1) := by decide +kernel
theorem dX6_bestAnswer_129 : decode cX6_bestAnswer 129 = .ok (.ireturn, 1) := by decide +kernel
set_option maxRecDepth 20000 in
theorem ggX6_changesIn_X0_withdrawn : GoodIn wsX6_changesIn wsX0_withdrawn := goodIn_r _ [5, 6, 7, 8, 9, 3, 10, 11, 54, 55, 56, 57, 58, 59, 60, 61, 62, 63, 64, 65, 66] (by decide +kernel) (by decide +kernel)
set_option maxRecDepth 20000 in
theorem gX6_changesIn_X0_withdrawn_n145 : GoodIn wsX6_changesIn (wsX0_withdrawn) := ggX6_changesIn_X0_withdrawn
set_option maxRecDepth 20000 in
theorem ggX6_changesIn_X0_struck : GoodIn wsX6_changesIn wsX0_struck := goodIn_r _ [14, 6, 15, 7, 8, 9, 3, 10, 11, 54, 55, 56, 57, 58, 59, 60, 61, 62, 63, 64, 65, 66] (by decide +kernel) (by decide +kernel)
set_option maxRecDepth 20000 in
theorem gX6_changesIn_X0_struck_n148 : GoodIn wsX6_changesIn (wsX0_struck) := ggX6_changesIn_X0_struck
set_option maxRecDepth 20000 in
theorem ggX6_changesIn_X0_baseless : GoodIn wsX6_changesIn wsX0_baseless := goodIn_r _ [18, 6, 19, 7, 8, 9, 3, 10, 11, 54, 55, 56, 57, 58, 59, 60, 61, 62, 63, 64, 65, 66] (by decide +kernel) (by decide +kernel)
set_option maxRecDepth 20000 in
theorem gX6_changesIn_X0_baseless_n190 : GoodIn wsX6_changesIn (wsX0_baseless) := ggX6_changesIn_X0_baseless
set_option maxRecDepth 20000 in
theorem ggX6_changesIn_X0_standing : GoodIn wsX6_changesIn wsX0_standing := goodIn_r _ [22, 23, 24, 25, 3, 26, 27, 28, 2, 4, 5, 6, 7, 8, 9, 10, 11, 29, 12, 13, 14, 15, 30, 31, 32, 33, 34, 35, 16, 17, 18, 19, 36, 37, 38, 39, 40, 41, 42, 43, 44, 45, 46, 54, 55, 56, 57, 58, 59, 60, 61, 62, 63, 64, 65, 66] (by decide +kernel) (by decide +kernel)
set_option maxRecDepth 20000 in
theorem gX6_changesIn_X0_standing_n101 : GoodIn wsX6_changesIn (wsX0_standing) := ggX6_changesIn_X0_standing
set_option maxRecDepth 20000 in
theorem ggX6_changesIn_X0_lapsedOn : GoodIn wsX6_changesIn wsX0_lapsedOn := goodIn_r _ [33, 6, 34, 7, 8, 9, 3, 10, 11, 54, 55, 56, 57, 58, 59, 60, 61, 62, 63, 64, 65, 66] (by decide +kernel) (by decide +kernel)
set_option maxRecDepth 20000 in
theorem gX6_changesIn_X0_lapsedOn_n193 : GoodIn wsX6_changesIn (wsX0_lapsedOn) := ggX6_changesIn_X0_lapsedOn
set_option maxRecDepth 20000 in
theorem ggX6_changesIn_X0_standingIf : GoodIn wsX6_changesIn wsX0_standingIf := goodIn_r _ [39, 6, 40, 41, 42, 43, 44, 45, 3, 46, 7, 8, 9, 10, 11, 54, 55, 56, 57, 58, 59, 60, 61, 62, 63, 64, 65, 66] (by decide +kernel) (by decide +kernel)
set_option maxRecDepth 20000 in
theorem gX6_changesIn_X0_standingIf_n184 : GoodIn wsX6_changesIn (wsX0_standingIf) := ggX6_changesIn_X0_standingIf
theorem dX6_changesIn_0 : decode cX6_changesIn 0 = .ok (.aload_n 0, 1) := by decide +kernel
theorem dX6_changesIn_1 : decode cX6_changesIn 1 = .ok (.getfield 12, 3) := by decide +kernel
theorem dX6_changesIn_4 : decode cX6_changesIn 4 = .ok (.invokevirtual 145, 3) := by decide +kernel
theorem dX6_changesIn_7 : decode cX6_changesIn 7 = .ok (.aload_n 0, 1) := by decide +kernel
theorem dX6_changesIn_8 : decode cX6_changesIn 8 = .ok (.getfield 12, 3) := by decide +kernel
theorem dX6_changesIn_11 : decode cX6_changesIn 11 = .ok (.invokevirtual 148, 3) := by decide +kernel
theorem dX6_changesIn_14 : decode cX6_changesIn 14 = .ok (.ior, 1) := by decide +kernel
theorem dX6_changesIn_15 : decode cX6_changesIn 15 = .ok (.aload_n 0, 1) := by decide +kernel
theorem dX6_changesIn_16 : decode cX6_changesIn 16 = .ok (.getfield 12, 3) := by decide +kernel
theorem dX6_changesIn_19 : decode cX6_changesIn 19 = .ok (.invokevirtual 190, 3) := by decide +kernel
theorem dX6_changesIn_22 : decode cX6_changesIn 22 = .ok (.ior, 1) := by decide +kernel
theorem dX6_changesIn_23 : decode cX6_changesIn 23 = .ok (.istore_n 1, 1) := by decide +kernel
theorem dX6_changesIn_24 : decode cX6_changesIn 24 = .ok (.aload_n 0, 1) := by decide +kernel
theorem dX6_changesIn_25 : decode cX6_changesIn 25 = .ok (.getfield 12, 3) := by decide +kernel
theorem dX6_changesIn_28 : decode cX6_changesIn 28 = .ok (.invokevirtual 101, 3) := by decide +kernel
theorem dX6_changesIn_31 : decode cX6_changesIn 31 = .ok (.istore_n 2, 1) := by decide +kernel
theorem dX6_changesIn_32 : decode cX6_changesIn 32 = .ok (.iconst 1, 1) := by decide +kernel
theorem dX6_changesIn_33 : decode cX6_changesIn 33 = .ok (.istore_n 3, 1) := by decide +kernel
theorem dX6_changesIn_34 : decode cX6_changesIn 34 = .ok (.iload_n 3, 1) := by decide +kernel
theorem dX6_changesIn_35 : decode cX6_changesIn 35 = .ok (.bipush 61, 2) := by decide +kernel
theorem dX6_changesIn_37 : decode cX6_changesIn 37 = .ok (.if_icmp .gt 41, 3) := by decide +kernel
theorem dX6_changesIn_40 : decode cX6_changesIn 40 = .ok (.aload_n 0, 1) := by decide +kernel
theorem dX6_changesIn_41 : decode cX6_changesIn 41 = .ok (.getfield 12, 3) := by decide +kernel
theorem dX6_changesIn_44 : decode cX6_changesIn 44 = .ok (.iload_n 1, 1) := by decide +kernel
theorem dX6_changesIn_45 : decode cX6_changesIn 45 = .ok (.aload_n 0, 1) := by decide +kernel
theorem dX6_changesIn_46 : decode cX6_changesIn 46 = .ok (.getfield 12, 3) := by decide +kernel
theorem dX6_changesIn_49 : decode cX6_changesIn 49 = .ok (.aload_n 0, 1) := by decide +kernel
theorem dX6_changesIn_50 : decode cX6_changesIn 50 = .ok (.getfield 12, 3) := by decide +kernel
theorem dX6_changesIn_53 : decode cX6_changesIn 53 = .ok (.getfield 125, 3) := by decide +kernel
theorem dX6_changesIn_56 : decode cX6_changesIn 56 = .ok (.iload_n 3, 1) := by decide +kernel
theorem dX6_changesIn_57 : decode cX6_changesIn 57 = .ok (.iadd, 1) := by decide +kernel
theorem dX6_changesIn_58 : decode cX6_changesIn 58 = .ok (.invokevirtual 193, 3) := by decide +kernel
theorem dX6_changesIn_61 : decode cX6_changesIn 61 = .ok (.ior, 1) := by decide +kernel
theorem dX6_changesIn_62 : decode cX6_changesIn 62 = .ok (.iconst 0, 1) := by decide +kernel
theorem dX6_changesIn_63 : decode cX6_changesIn 63 = .ok (.invokevirtual 184, 3) := by decide +kernel
theorem dX6_changesIn_66 : decode cX6_changesIn 66 = .ok (.iload_n 2, 1) := by decide +kernel
theorem dX6_changesIn_67 : decode cX6_changesIn 67 = .ok (.if_icmp .eq 5, 3) := by decide +kernel
theorem dX6_changesIn_70 : decode cX6_changesIn 70 = .ok (.iload_n 3, 1) := by decide +kernel
theorem dX6_changesIn_71 : decode cX6_changesIn 71 = .ok (.ireturn, 1) := by decide +kernel
theorem dX6_changesIn_72 : decode cX6_changesIn 72 = .ok (.iinc 3 1, 3) := by decide +kernel
theorem dX6_changesIn_75 : decode cX6_changesIn 75 = .ok (.goto (-41), 3) := by decide +kernel
theorem dX6_changesIn_78 : decode cX6_changesIn 78 = .ok (.bipush (-6), 2) := by decide +kernel
theorem dX6_changesIn_80 : decode cX6_changesIn 80 = .ok (.ireturn, 1) := by decide +kernel
set_option maxRecDepth 20000 in
theorem ggX6_leastPages_X0_withdrawn : GoodIn wsX6_leastPages wsX0_withdrawn := goodIn_r _ [9, 10, 11, 12, 13, 7, 14, 15, 29, 30, 31, 32, 33, 34, 35, 36, 37, 38, 39, 40, 41] (by decide +kernel) (by decide +kernel)
set_option maxRecDepth 20000 in
theorem gX6_leastPages_X0_withdrawn_n145 : GoodIn wsX6_leastPages (wsX0_withdrawn) := ggX6_leastPages_X0_withdrawn
set_option maxRecDepth 20000 in
theorem ggX6_leastPages_X0_pagesOf : GoodIn wsX6_leastPages wsX0_pagesOf := goodIn_r _ [18, 10, 11, 12, 13, 7, 14, 15, 19, 20, 21, 29, 30, 31, 32, 33, 34, 35, 36, 37, 38, 39, 40, 41] (by decide +kernel) (by decide +kernel)
set_option maxRecDepth 20000 in
theorem gX6_leastPages_X0_pagesOf_n151 : GoodIn wsX6_leastPages (wsX0_pagesOf) := ggX6_leastPages_X0_pagesOf
theorem dX6_leastPages_0 : decode cX6_leastPages 0 = .ok (.aload_n 0, 1) := by decide +kernel
theorem dX6_leastPages_1 : decode cX6_leastPages 1 = .ok (.getfield 12, 3) := by decide +kernel
theorem dX6_leastPages_4 : decode cX6_leastPages 4 = .ok (.invokevirtual 145, 3) := by decide +kernel
theorem dX6_leastPages_7 : decode cX6_leastPages 7 = .ok (.istore_n 1, 1) := by decide +kernel
theorem dX6_leastPages_8 : decode cX6_leastPages 8 = .ok (.iconst 1, 1) := by decide +kernel
theorem dX6_leastPages_9 : decode cX6_leastPages 9 = .ok (.aload_n 0, 1) := by decide +kernel
theorem dX6_leastPages_10 : decode cX6_leastPages 10 = .ok (.getfield 12, 3) := by decide +kernel
theorem dX6_leastPages_13 : decode cX6_leastPages 13 = .ok (.iconst 0, 1) := by decide +kernel
theorem dX6_leastPages_14 : decode cX6_leastPages 14 = .ok (.iload_n 1, 1) := by decide +kernel
theorem dX6_leastPages_15 : decode cX6_leastPages 15 = .ok (.invokevirtual 151, 3) := by decide +kernel
theorem dX6_leastPages_18 : decode cX6_leastPages 18 = .ok (.aload_n 0, 1) := by decide +kernel
theorem dX6_leastPages_19 : decode cX6_leastPages 19 = .ok (.getfield 12, 3) := by decide +kernel
theorem dX6_leastPages_22 : decode cX6_leastPages 22 = .ok (.iconst 1, 1) := by decide +kernel
theorem dX6_leastPages_23 : decode cX6_leastPages 23 = .ok (.iload_n 1, 1) := by decide +kernel
theorem dX6_leastPages_24 : decode cX6_leastPages 24 = .ok (.invokevirtual 151, 3) := by decide +kernel
theorem dX6_leastPages_27 : decode cX6_leastPages 27 = .ok (.invokestatic 196, 3) := by decide +kernel
theorem dX6_leastPages_30 : decode cX6_leastPages 30 = .ok (.invokestatic 196, 3) := by decide +kernel
theorem dX6_leastPages_33 : decode cX6_leastPages 33 = .ok (.istore_n 2, 1) := by decide +kernel
theorem dX6_leastPages_34 : decode cX6_leastPages 34 = .ok (.iload_n 2, 1) := by decide +kernel
theorem dX6_leastPages_35 : decode cX6_leastPages 35 = .ok (.bipush 99, 2) := by decide +kernel
theorem dX6_leastPages_37 : decode cX6_leastPages 37 = .ok (.if_icmp .le 8, 3) := by decide +kernel
theorem dX6_leastPages_40 : decode cX6_leastPages 40 = .ok (.bipush (-6), 2) := by decide +kernel
theorem dX6_leastPages_42 : decode cX6_leastPages 42 = .ok (.goto 4, 3) := by decide +kernel
theorem dX6_leastPages_45 : decode cX6_leastPages 45 = .ok (.iload_n 2, 1) := by decide +kernel
theorem dX6_leastPages_46 : decode cX6_leastPages 46 = .ok (.ireturn, 1) := by decide +kernel
set_option maxRecDepth 20000 in
theorem ggX6_put_X3_signsIn : GoodIn wsX6_put wsX3_signsIn := goodIn_r _ [4, 5, 6, 3, 7, 8] (by decide +kernel) (by decide +kernel)
set_option maxRecDepth 20000 in
theorem gX6_put_X3_signsIn_n201 : GoodIn wsX6_put (wsX3_signsIn) := ggX6_put_X3_signsIn
set_option maxRecDepth 20000 in
theorem ggX6_put_X3_signOf : GoodIn wsX6_put wsX3_signOf := goodIn_r _ [7, 8] (by decide +kernel) (by decide +kernel)
set_option maxRecDepth 20000 in
theorem gX6_put_X3_signOf_n205 : GoodIn wsX6_put (wsX3_signOf) := ggX6_put_X3_signOf
set_option maxRecDepth 20000 in
theorem ggX6_put_X3_append : GoodIn wsX6_put wsX3_append := goodIn_r _ [11, 12, 13, 21, 22] (by decide +kernel) (by decide +kernel)
set_option maxRecDepth 20000 in
theorem gX6_put_X3_append_n209 : GoodIn wsX6_put (wsX3_append) := ggX6_put_X3_append
theorem dX6_put_0 : decode cX6_put 0 = .ok (.lload_n 1, 1) := by decide +kernel
theorem dX6_put_1 : decode cX6_put 1 = .ok (.invokestatic 201, 3) := by decide +kernel
theorem dX6_put_4 : decode cX6_put 4 = .ok (.istore_n 3, 1) := by decide +kernel
theorem dX6_put_5 : decode cX6_put 5 = .ok (.iload_n 3, 1) := by decide +kernel
theorem dX6_put_6 : decode cX6_put 6 = .ok (.ifCond .ne 6, 3) := by decide +kernel
theorem dX6_put_9 : decode cX6_put 9 = .ok (.bipush (-2), 2) := by decide +kernel
theorem dX6_put_11 : decode cX6_put 11 = .ok (.ireturn, 1) := by decide +kernel
theorem dX6_put_12 : decode cX6_put 12 = .ok (.aload_n 0, 1) := by decide +kernel
theorem dX6_put_13 : decode cX6_put 13 = .ok (.getfield 26, 3) := by decide +kernel
theorem dX6_put_16 : decode cX6_put 16 = .ok (.getfield 163, 3) := by decide +kernel
theorem dX6_put_19 : decode cX6_put 19 = .ok (.iload_n 3, 1) := by decide +kernel
theorem dX6_put_20 : decode cX6_put 20 = .ok (.iadd, 1) := by decide +kernel
theorem dX6_put_21 : decode cX6_put 21 = .ok (.bipush 80, 2) := by decide +kernel
theorem dX6_put_23 : decode cX6_put 23 = .ok (.if_icmp .le 6, 3) := by decide +kernel
theorem dX6_put_26 : decode cX6_put 26 = .ok (.bipush (-4), 2) := by decide +kernel
theorem dX6_put_28 : decode cX6_put 28 = .ok (.ireturn, 1) := by decide +kernel
theorem dX6_put_29 : decode cX6_put 29 = .ok (.iload_n 3, 1) := by decide +kernel
theorem dX6_put_30 : decode cX6_put 30 = .ok (.iconst 1, 1) := by decide +kernel
theorem dX6_put_31 : decode cX6_put 31 = .ok (.isub, 1) := by decide +kernel
theorem dX6_put_32 : decode cX6_put 32 = .ok (.istore 4, 2) := by decide +kernel
theorem dX6_put_34 : decode cX6_put 34 = .ok (.iload 4, 2) := by decide +kernel
theorem dX6_put_36 : decode cX6_put 36 = .ok (.ifCond .lt 22, 3) := by decide +kernel
theorem dX6_put_39 : decode cX6_put 39 = .ok (.aload_n 0, 1) := by decide +kernel
theorem dX6_put_40 : decode cX6_put 40 = .ok (.getfield 26, 3) := by decide +kernel
theorem dX6_put_43 : decode cX6_put 43 = .ok (.lload_n 1, 1) := by decide +kernel
theorem dX6_put_44 : decode cX6_put 44 = .ok (.iload 4, 2) := by decide +kernel
theorem dX6_put_46 : decode cX6_put 46 = .ok (.invokestatic 205, 3) := by decide +kernel
theorem dX6_put_49 : decode cX6_put 49 = .ok (.invokevirtual 209, 3) := by decide +kernel
theorem dX6_put_52 : decode cX6_put 52 = .ok (.iinc 4 (-1), 3) := by decide +kernel
theorem dX6_put_55 : decode cX6_put 55 = .ok (.goto (-21), 3) := by decide +kernel
theorem dX6_put_58 : decode cX6_put 58 = .ok (.aload_n 0, 1) := by decide +kernel
theorem dX6_put_59 : decode cX6_put 59 = .ok (.getfield 26, 3) := by decide +kernel
theorem dX6_put_62 : decode cX6_put 62 = .ok (.getfield 163, 3) := by decide +kernel
theorem dX6_put_65 : decode cX6_put 65 = .ok (.ireturn, 1) := by decide +kernel
set_option maxRecDepth 20000 in
theorem ggX6_wipe_X3_empty : GoodIn wsX6_wipe wsX3_empty := goodIn_r _ [5, 6, 14, 15] (by decide +kernel) (by decide +kernel)
set_option maxRecDepth 20000 in
theorem gX6_wipe_X3_empty_n213 : GoodIn wsX6_wipe (wsX3_empty) := ggX6_wipe_X3_empty
theorem dX6_wipe_0 : decode cX6_wipe 0 = .ok (.aload_n 0, 1) := by decide +kernel
theorem dX6_wipe_1 : decode cX6_wipe 1 = .ok (.getfield 26, 3) := by decide +kernel
theorem dX6_wipe_4 : decode cX6_wipe 4 = .ok (.invokevirtual 213, 3) := by decide +kernel
theorem dX6_wipe_7 : decode cX6_wipe 7 = .ok (.ireturn, 1) := by decide +kernel
set_option maxRecDepth 20000 in
theorem ggX6_fault_X5_firstFault : GoodIn wsX6_fault wsX5_firstFault := goodIn_r _ [6, 7, 8, 9, 10, 4, 11, 12, 13, 14, 15, 16, 17, 18, 19, 20, 21, 22, 23, 24, 25, 26, 27, 28, 29, 30, 31, 32, 33, 34, 35, 36, 37, 38, 39, 40, 41, 42, 43, 44, 45, 46, 47, 48, 49, 50, 58, 59, 60, 61, 62, 63, 64, 65] (by decide +kernel) (by decide +kernel)
set_option maxRecDepth 20000 in
theorem gX6_fault_X5_firstFault_n216 : GoodIn wsX6_fault (wsX5_firstFault) := ggX6_fault_X5_firstFault
theorem dX6_fault_0 : decode cX6_fault 0 = .ok (.aload_n 0, 1) := by decide +kernel
theorem dX6_fault_1 : decode cX6_fault 1 = .ok (.getfield 33, 3) := by decide +kernel
theorem dX6_fault_4 : decode cX6_fault 4 = .ok (.aload_n 0, 1) := by decide +kernel
theorem dX6_fault_5 : decode cX6_fault 5 = .ok (.getfield 26, 3) := by decide +kernel
theorem dX6_fault_8 : decode cX6_fault 8 = .ok (.invokevirtual 216, 3) := by decide +kernel
theorem dX6_fault_11 : decode cX6_fault 11 = .ok (.ireturn, 1) := by decide +kernel
set_option maxRecDepth 20000 in
theorem ggX6_carryOut_X5_firstFault : GoodIn wsX6_carryOut wsX5_firstFault := goodIn_r _ [8, 9, 10, 11, 12, 6, 13, 14, 15, 16, 17, 18, 19, 20, 21, 22, 23, 24, 25, 26, 27, 28, 29, 30, 31, 32, 33, 34, 35, 36, 37, 38, 39, 40, 41, 42, 43, 44, 45, 46, 47, 48, 49, 50, 51, 52, 180, 181, 182, 183, 184, 185, 186, 187] (by decide +kernel) (by decide +kernel)
set_option maxRecDepth 20000 in
theorem gX6_carryOut_X5_firstFault_n216 : GoodIn wsX6_carryOut (wsX5_firstFault) := ggX6_carryOut_X5_firstFault
set_option maxRecDepth 20000 in
theorem ggX6_carryOut_X2_prepare : GoodIn wsX6_carryOut wsX2_prepare := goodIn_r _ [56, 57, 58, 59, 60, 54, 61, 62, 63, 64, 65, 66, 67, 68, 69, 70, 71, 72, 73, 74, 75, 76, 77, 78, 79, 80, 81, 82, 83, 84, 85, 86, 87, 188, 189, 190, 191, 192, 193, 194, 195, 196, 197, 198, 199, 200, 201, 202] (by decide +kernel) (by decide +kernel)
set_option maxRecDepth 20000 in
theorem gX6_carryOut_X2_prepare_n48 : GoodIn wsX6_carryOut (wsX2_prepare) := ggX6_carryOut_X2_prepare
set_option maxRecDepth 20000 in
theorem ggX6_carryOut_X5_rewind : GoodIn wsX6_carryOut wsX5_rewind := goodIn_r _ [13, 9, 180, 181, 182, 183, 184, 185] (by decide +kernel) (by decide +kernel)
set_option maxRecDepth 20000 in
theorem gX6_carryOut_X5_rewind_n220 : GoodIn wsX6_carryOut (wsX5_rewind) := ggX6_carryOut_X5_rewind
set_option maxRecDepth 20000 in
theorem ggX6_carryOut_X5_readOrder : GoodIn wsX6_carryOut wsX5_readOrder := goodIn_r _ [17, 9, 18, 19, 20, 21, 22, 23, 24, 25, 26, 27, 6, 28, 29, 30, 31, 32, 33, 34, 35, 36, 37, 38, 39, 40, 41, 42, 43, 44, 45, 46, 47, 48, 49, 50, 51, 52, 180, 181, 182, 183, 184, 185, 186, 187] (by decide +kernel) (by decide +kernel)
set_option maxRecDepth 20000 in
theorem gX6_carryOut_X5_readOrder_n223 : GoodIn wsX6_carryOut (wsX5_readOrder) := ggX6_carryOut_X5_readOrder
set_option maxRecDepth 20000 in
theorem ggX6_carryOut_X6_follow : GoodIn wsX6_carryOut wsX6_follow := goodIn_r _ [92, 1, 4, 93, 64, 94, 95, 96, 97, 98, 99, 100, 101, 102, 68, 67, 103, 104, 105, 106, 72, 107, 108, 109, 73, 74, 75, 76, 110, 111, 112, 113, 114, 115, 116, 117, 118, 119, 120, 121, 122, 123, 124, 125, 126, 127, 128, 71, 129, 130, 131, 132, 70, 133, 134, 135, 136, 69, 137, 138, 139, 140, 141, 91, 142, 143, 144, 145, 146, 147, 148, 149, 150, 151, 152, 153, 154, 155, 156, 157, 158, 159, 160, 161, 162, 173, 174, 175, 176, 177, 178, 179, 180, 181, 182, 183, 184, 185, 196, 197, 198, 199, 200, 201, 202, 190, 191, 192, 193, 194, 195] (by decide +kernel) (by decide +kernel)
set_option maxRecDepth 20000 in
theorem gX6_carryOut_X6_follow : GoodIn wsX6_carryOut (wsV RX6 227 RX6 yX6_follow wsX6_follow) := goodIn_app (goodIn_of _ (by decide +kernel)) ggX6_carryOut_X6_follow
set_option maxRecDepth 20000 in
theorem ggX6_carryOut_X5_take : GoodIn wsX6_carryOut wsX5_take := goodIn_r _ [43, 9, 19, 20, 21, 22, 23, 24, 180, 181, 182, 183, 184, 185, 186, 187] (by decide +kernel) (by decide +kernel)
set_option maxRecDepth 20000 in
theorem gX6_carryOut_X5_take_n230 : GoodIn wsX6_carryOut (wsX5_take) := ggX6_carryOut_X5_take
set_option maxRecDepth 20000 in
theorem ggX6_carryOut_X3_empty : GoodIn wsX6_carryOut wsX3_empty := goodIn_r _ [165, 23, 186, 187] (by decide +kernel) (by decide +kernel)
set_option maxRecDepth 20000 in
theorem gX6_carryOut_X3_empty_n213 : GoodIn wsX6_carryOut (wsX3_empty) := ggX6_carryOut_X3_empty
set_option maxRecDepth 20000 in
theorem ggX6_carryOut_X2_settle : GoodIn wsX6_carryOut wsX2_settle := goodIn_r _ [168, 57, 169, 170, 171, 54, 172, 62, 58, 59, 60, 61, 188, 189] (by decide +kernel) (by decide +kernel)
set_option maxRecDepth 20000 in
theorem gX6_carryOut_X2_settle_n56 : GoodIn wsX6_carryOut (wsX2_settle) := ggX6_carryOut_X2_settle
theorem dX6_carryOut_0 : decode cX6_carryOut 0 = .ok (.aload_n 0, 1) := by decide +kernel
theorem dX6_carryOut_1 : decode cX6_carryOut 1 = .ok (.getfield 33, 3) := by decide +kernel
theorem dX6_carryOut_4 : decode cX6_carryOut 4 = .ok (.aload_n 0, 1) := by decide +kernel
theorem dX6_carryOut_5 : decode cX6_carryOut 5 = .ok (.getfield 26, 3) := by decide +kernel
theorem dX6_carryOut_8 : decode cX6_carryOut 8 = .ok (.invokevirtual 216, 3) := by decide +kernel
theorem dX6_carryOut_11 : decode cX6_carryOut 11 = .ok (.bipush (-6), 2) := by decide +kernel
theorem dX6_carryOut_13 : decode cX6_carryOut 13 = .ok (.if_icmp .eq 6, 3) := by decide +kernel
theorem dX6_carryOut_16 : decode cX6_carryOut 16 = .ok (.bipush (-3), 2) := by decide +kernel
theorem dX6_carryOut_18 : decode cX6_carryOut 18 = .ok (.ireturn, 1) := by decide +kernel
theorem dX6_carryOut_19 : decode cX6_carryOut 19 = .ok (.aload_n 0, 1) := by decide +kernel
theorem dX6_carryOut_20 : decode cX6_carryOut 20 = .ok (.getfield 40, 3) := by decide +kernel
theorem dX6_carryOut_23 : decode cX6_carryOut 23 = .ok (.aload_n 0, 1) := by decide +kernel
theorem dX6_carryOut_24 : decode cX6_carryOut 24 = .ok (.getfield 12, 3) := by decide +kernel
theorem dX6_carryOut_27 : decode cX6_carryOut 27 = .ok (.invokevirtual 48, 3) := by decide +kernel
theorem dX6_carryOut_30 : decode cX6_carryOut 30 = .ok (.aload_n 0, 1) := by decide +kernel
theorem dX6_carryOut_31 : decode cX6_carryOut 31 = .ok (.getfield 33, 3) := by decide +kernel
theorem dX6_carryOut_34 : decode cX6_carryOut 34 = .ok (.invokevirtual 220, 3) := by decide +kernel
theorem dX6_carryOut_37 : decode cX6_carryOut 37 = .ok (.iconst 0, 1) := by decide +kernel
theorem dX6_carryOut_38 : decode cX6_carryOut 38 = .ok (.istore_n 1, 1) := by decide +kernel
theorem dX6_carryOut_39 : decode cX6_carryOut 39 = .ok (.iload_n 1, 1) := by decide +kernel
theorem dX6_carryOut_40 : decode cX6_carryOut 40 = .ok (.bipush 80, 2) := by decide +kernel
theorem dX6_carryOut_42 : decode cX6_carryOut 42 = .ok (.if_icmp .ge 44, 3) := by decide +kernel
theorem dX6_carryOut_45 : decode cX6_carryOut 45 = .ok (.aload_n 0, 1) := by decide +kernel
theorem dX6_carryOut_46 : decode cX6_carryOut 46 = .ok (.getfield 33, 3) := by decide +kernel
theorem dX6_carryOut_49 : decode cX6_carryOut 49 = .ok (.aload_n 0, 1) := by decide +kernel
theorem dX6_carryOut_50 : decode cX6_carryOut 50 = .ok (.getfield 26, 3) := by decide +kernel
theorem dX6_carryOut_53 : decode cX6_carryOut 53 = .ok (.invokevirtual 223, 3) := by decide +kernel
theorem dX6_carryOut_56 : decode cX6_carryOut 56 = .ok (.ifCond .eq 30, 3) := by decide +kernel
theorem dX6_carryOut_59 : decode cX6_carryOut 59 = .ok (.aload_n 0, 1) := by decide +kernel
theorem dX6_carryOut_60 : decode cX6_carryOut 60 = .ok (.invokevirtual 227, 3) := by decide +kernel
theorem dX6_carryOut_63 : decode cX6_carryOut 63 = .ok (.ifCond .lt 23, 3) := by decide +kernel
theorem dX6_carryOut_66 : decode cX6_carryOut 66 = .ok (.iinc 1 1, 3) := by decide +kernel
theorem dX6_carryOut_69 : decode cX6_carryOut 69 = .ok (.aload_n 0, 1) := by decide +kernel
theorem dX6_carryOut_70 : decode cX6_carryOut 70 = .ok (.getfield 33, 3) := by decide +kernel
theorem dX6_carryOut_73 : decode cX6_carryOut 73 = .ok (.aload_n 0, 1) := by decide +kernel
theorem dX6_carryOut_74 : decode cX6_carryOut 74 = .ok (.getfield 26, 3) := by decide +kernel
theorem dX6_carryOut_77 : decode cX6_carryOut 77 = .ok (.bipush 59, 2) := by decide +kernel
theorem dX6_carryOut_79 : decode cX6_carryOut 79 = .ok (.invokevirtual 230, 3) := by decide +kernel
theorem dX6_carryOut_82 : decode cX6_carryOut 82 = .ok (.pop, 1) := by decide +kernel
theorem dX6_carryOut_83 : decode cX6_carryOut 83 = .ok (.goto (-44), 3) := by decide +kernel
theorem dX6_carryOut_86 : decode cX6_carryOut 86 = .ok (.aload_n 0, 1) := by decide +kernel
theorem dX6_carryOut_87 : decode cX6_carryOut 87 = .ok (.getfield 26, 3) := by decide +kernel
theorem dX6_carryOut_90 : decode cX6_carryOut 90 = .ok (.invokevirtual 213, 3) := by decide +kernel
theorem dX6_carryOut_93 : decode cX6_carryOut 93 = .ok (.pop, 1) := by decide +kernel
theorem dX6_carryOut_94 : decode cX6_carryOut 94 = .ok (.aload_n 0, 1) := by decide +kernel
theorem dX6_carryOut_95 : decode cX6_carryOut 95 = .ok (.getfield 40, 3) := by decide +kernel
theorem dX6_carryOut_98 : decode cX6_carryOut 98 = .ok (.iload_n 1, 1) := by decide +kernel
theorem dX6_carryOut_99 : decode cX6_carryOut 99 = .ok (.invokevirtual 56, 3) := by decide +kernel
theorem dX6_carryOut_102 : decode cX6_carryOut 102 = .ok (.ireturn, 1) := by decide +kernel
set_option maxRecDepth 20000 in
theorem ggX6_undo_X2_bringBack : GoodIn wsX6_undo wsX2_bringBack := goodIn_r _ [6, 7, 8, 9, 10, 4, 11, 12, 13, 14, 15, 16, 17, 18, 19, 20, 21, 22, 23, 24, 25, 26, 27, 28, 29, 30, 31, 32, 33, 34, 35, 36, 37, 45, 46, 47, 48, 49, 50, 51, 52, 53, 54, 55, 56, 57, 58, 59] (by decide +kernel) (by decide +kernel)
set_option maxRecDepth 20000 in
theorem gX6_undo_X2_bringBack_n234 : GoodIn wsX6_undo (wsX2_bringBack) := ggX6_undo_X2_bringBack
theorem dX6_undo_0 : decode cX6_undo 0 = .ok (.aload_n 0, 1) := by decide +kernel
theorem dX6_undo_1 : decode cX6_undo 1 = .ok (.getfield 40, 3) := by decide +kernel
theorem dX6_undo_4 : decode cX6_undo 4 = .ok (.aload_n 0, 1) := by decide +kernel
theorem dX6_undo_5 : decode cX6_undo 5 = .ok (.getfield 12, 3) := by decide +kernel
theorem dX6_undo_8 : decode cX6_undo 8 = .ok (.invokevirtual 234, 3) := by decide +kernel
theorem dX6_undo_11 : decode cX6_undo 11 = .ok (.ireturn, 1) := by decide +kernel
set_option maxRecDepth 20000 in
theorem ggX6_save_X6_slotRow : GoodIn wsX6_save wsX6_slotRow := goodIn_r _ [7, 8, 34, 35, 36, 37, 38, 39, 40] (by decide +kernel) (by decide +kernel)
set_option maxRecDepth 20000 in
theorem gX6_save_X6_slotRow : GoodIn wsX6_save (wsV RX6 238 RX6 yX6_slotRow wsX6_slotRow) := goodIn_app (goodIn_of _ (by decide +kernel)) ggX6_save_X6_slotRow
set_option maxRecDepth 20000 in
theorem ggX6_save_X0_become : GoodIn wsX6_save wsX0_become := goodIn_r _ [12, 13, 14, 15, 16, 17, 18, 19, 20, 21, 10, 22, 23, 24, 25, 26, 27, 28, 29, 30, 31, 32, 33, 41, 42, 43, 44, 45, 46, 47, 48, 49, 50, 51, 52, 53] (by decide +kernel) (by decide +kernel)
set_option maxRecDepth 20000 in
theorem gX6_save_X0_become_n242 : GoodIn wsX6_save (wsX0_become) := ggX6_save_X0_become
theorem dX6_save_0 : decode cX6_save 0 = .ok (.aload_n 0, 1) := by decide +kernel
theorem dX6_save_1 : decode cX6_save 1 = .ok (.iload_n 1, 1) := by decide +kernel
theorem dX6_save_2 : decode cX6_save 2 = .ok (.invokevirtual 238, 3) := by decide +kernel
theorem dX6_save_5 : decode cX6_save 5 = .ok (.astore_n 2, 1) := by decide +kernel
theorem dX6_save_6 : decode cX6_save 6 = .ok (.aload_n 2, 1) := by decide +kernel
theorem dX6_save_7 : decode cX6_save 7 = .ok (.ifnonnull 6, 3) := by decide +kernel
theorem dX6_save_10 : decode cX6_save 10 = .ok (.bipush (-2), 2) := by decide +kernel
theorem dX6_save_12 : decode cX6_save 12 = .ok (.ireturn, 1) := by decide +kernel
theorem dX6_save_13 : decode cX6_save 13 = .ok (.aload_n 2, 1) := by decide +kernel
theorem dX6_save_14 : decode cX6_save 14 = .ok (.aload_n 0, 1) := by decide +kernel
theorem dX6_save_15 : decode cX6_save 15 = .ok (.getfield 12, 3) := by decide +kernel
theorem dX6_save_18 : decode cX6_save 18 = .ok (.invokevirtual 242, 3) := by decide +kernel
theorem dX6_save_21 : decode cX6_save 21 = .ok (.aload_n 0, 1) := by decide +kernel
theorem dX6_save_22 : decode cX6_save 22 = .ok (.dup, 1) := by decide +kernel
theorem dX6_save_23 : decode cX6_save 23 = .ok (.getfield 245, 3) := by decide +kernel
theorem dX6_save_26 : decode cX6_save 26 = .ok (.iconst 1, 1) := by decide +kernel
theorem dX6_save_27 : decode cX6_save 27 = .ok (.iload_n 1, 1) := by decide +kernel
theorem dX6_save_28 : decode cX6_save 28 = .ok (.ishl, 1) := by decide +kernel
theorem dX6_save_29 : decode cX6_save 29 = .ok (.ior, 1) := by decide +kernel
theorem dX6_save_30 : decode cX6_save 30 = .ok (.putfield 245, 3) := by decide +kernel
theorem dX6_save_33 : decode cX6_save 33 = .ok (.aload_n 0, 1) := by decide +kernel
theorem dX6_save_34 : decode cX6_save 34 = .ok (.getfield 12, 3) := by decide +kernel
theorem dX6_save_37 : decode cX6_save 37 = .ok (.getfield 128, 3) := by decide +kernel
theorem dX6_save_40 : decode cX6_save 40 = .ok (.ireturn, 1) := by decide +kernel
set_option maxRecDepth 20000 in
theorem ggX6_restore_X6_slotRow : GoodIn wsX6_restore wsX6_slotRow := goodIn_r _ [8, 9, 55, 56, 57, 58, 59, 60, 61] (by decide +kernel) (by decide +kernel)
set_option maxRecDepth 20000 in
theorem gX6_restore_X6_slotRow : GoodIn wsX6_restore (wsV RX6 238 RX6 yX6_slotRow wsX6_slotRow) := goodIn_app (goodIn_of _ (by decide +kernel)) ggX6_restore_X6_slotRow
set_option maxRecDepth 20000 in
theorem ggX6_restore_X6_has : GoodIn wsX6_restore wsX6_has := goodIn_r _ [12] (by decide +kernel) (by decide +kernel)
set_option maxRecDepth 20000 in
theorem gX6_restore_X6_has : GoodIn wsX6_restore (va_wsS RX6 105 yX6_has wsX6_has) := goodIn_app (goodIn_of _ (by decide +kernel)) ggX6_restore_X6_has
set_option maxRecDepth 20000 in
theorem ggX6_restore_X2_prepare : GoodIn wsX6_restore wsX2_prepare := goodIn_r _ [16, 17, 18, 19, 20, 14, 21, 22, 23, 24, 25, 26, 27, 28, 29, 30, 31, 32, 33, 34, 35, 36, 37, 38, 39, 40, 41, 42, 43, 44, 45, 46, 47, 68, 69, 62, 63, 64, 65, 66, 67, 70, 71, 72, 73, 74, 75, 76] (by decide +kernel) (by decide +kernel)
set_option maxRecDepth 20000 in
theorem gX6_restore_X2_prepare_n48 : GoodIn wsX6_restore (wsX2_prepare) := ggX6_restore_X2_prepare
set_option maxRecDepth 20000 in
theorem ggX6_restore_X0_become : GoodIn wsX6_restore wsX0_become := goodIn_r _ [26, 27, 28, 29, 30, 31, 32, 33, 34, 35, 24, 36, 37, 38, 39, 40, 41, 42, 43, 44, 45, 46, 47, 62, 63, 64, 65, 66, 67, 70, 71, 72, 73, 74, 75, 76] (by decide +kernel) (by decide +kernel)
set_option maxRecDepth 20000 in
theorem gX6_restore_X0_become_n242 : GoodIn wsX6_restore (wsX0_become) := ggX6_restore_X0_become
set_option maxRecDepth 20000 in
theorem ggX6_restore_X2_settle : GoodIn wsX6_restore wsX2_settle := goodIn_r _ [50, 17, 51, 52, 53, 14, 54, 22, 18, 19, 20, 21, 68, 69] (by decide +kernel) (by decide +kernel)
set_option maxRecDepth 20000 in
theorem gX6_restore_X2_settle_n56 : GoodIn wsX6_restore (wsX2_settle) := ggX6_restore_X2_settle
theorem dX6_restore_0 : decode cX6_restore 0 = .ok (.aload_n 0, 1) := by decide +kernel
theorem dX6_restore_1 : decode cX6_restore 1 = .ok (.iload_n 1, 1) := by decide +kernel
theorem dX6_restore_2 : decode cX6_restore 2 = .ok (.invokevirtual 238, 3) := by decide +kernel
theorem dX6_restore_5 : decode cX6_restore 5 = .ok (.astore_n 2, 1) := by decide +kernel
theorem dX6_restore_6 : decode cX6_restore 6 = .ok (.aload_n 2, 1) := by decide +kernel
theorem dX6_restore_7 : decode cX6_restore 7 = .ok (.ifnonnull 6, 3) := by decide +kernel
theorem dX6_restore_10 : decode cX6_restore 10 = .ok (.bipush (-2), 2) := by decide +kernel
theorem dX6_restore_12 : decode cX6_restore 12 = .ok (.ireturn, 1) := by decide +kernel
theorem dX6_restore_13 : decode cX6_restore 13 = .ok (.aload_n 0, 1) := by decide +kernel
theorem dX6_restore_14 : decode cX6_restore 14 = .ok (.getfield 245, 3) := by decide +kernel
theorem dX6_restore_17 : decode cX6_restore 17 = .ok (.iload_n 1, 1) := by decide +kernel
theorem dX6_restore_18 : decode cX6_restore 18 = .ok (.invokestatic 105, 3) := by decide +kernel
theorem dX6_restore_21 : decode cX6_restore 21 = .ok (.ifCond .ne 6, 3) := by decide +kernel
theorem dX6_restore_24 : decode cX6_restore 24 = .ok (.bipush (-5), 2) := by decide +kernel
theorem dX6_restore_26 : decode cX6_restore 26 = .ok (.ireturn, 1) := by decide +kernel
theorem dX6_restore_27 : decode cX6_restore 27 = .ok (.aload_n 0, 1) := by decide +kernel
theorem dX6_restore_28 : decode cX6_restore 28 = .ok (.getfield 40, 3) := by decide +kernel
theorem dX6_restore_31 : decode cX6_restore 31 = .ok (.aload_n 0, 1) := by decide +kernel
theorem dX6_restore_32 : decode cX6_restore 32 = .ok (.getfield 12, 3) := by decide +kernel
theorem dX6_restore_35 : decode cX6_restore 35 = .ok (.invokevirtual 48, 3) := by decide +kernel
theorem dX6_restore_38 : decode cX6_restore 38 = .ok (.aload_n 0, 1) := by decide +kernel
theorem dX6_restore_39 : decode cX6_restore 39 = .ok (.getfield 12, 3) := by decide +kernel
theorem dX6_restore_42 : decode cX6_restore 42 = .ok (.aload_n 2, 1) := by decide +kernel
theorem dX6_restore_43 : decode cX6_restore 43 = .ok (.invokevirtual 242, 3) := by decide +kernel
theorem dX6_restore_46 : decode cX6_restore 46 = .ok (.aload_n 0, 1) := by decide +kernel
theorem dX6_restore_47 : decode cX6_restore 47 = .ok (.getfield 40, 3) := by decide +kernel
theorem dX6_restore_50 : decode cX6_restore 50 = .ok (.aload_n 0, 1) := by decide +kernel
theorem dX6_restore_51 : decode cX6_restore 51 = .ok (.getfield 12, 3) := by decide +kernel
theorem dX6_restore_54 : decode cX6_restore 54 = .ok (.getfield 128, 3) := by decide +kernel
theorem dX6_restore_57 : decode cX6_restore 57 = .ok (.invokevirtual 56, 3) := by decide +kernel
theorem dX6_restore_60 : decode cX6_restore 60 = .ok (.ireturn, 1) := by decide +kernel
theorem dX6_slotRow_0 : decode cX6_slotRow 0 = .ok (.iload_n 1, 1) := by decide +kernel
theorem dX6_slotRow_1 : decode cX6_slotRow 1 = .ok (.ifCond .lt 21, 3) := by decide +kernel
theorem dX6_slotRow_4 : decode cX6_slotRow 4 = .ok (.iload_n 1, 1) := by decide +kernel
theorem dX6_slotRow_5 : decode cX6_slotRow 5 = .ok (.aload_n 0, 1) := by decide +kernel
theorem dX6_slotRow_6 : decode cX6_slotRow 6 = .ok (.getfield 44, 3) := by decide +kernel
theorem dX6_slotRow_9 : decode cX6_slotRow 9 = .ok (.arraylength, 1) := by decide +kernel
theorem dX6_slotRow_10 : decode cX6_slotRow 10 = .ok (.if_icmp .ge 12, 3) := by decide +kernel
theorem dX6_slotRow_13 : decode cX6_slotRow 13 = .ok (.aload_n 0, 1) := by decide +kernel
theorem dX6_slotRow_14 : decode cX6_slotRow 14 = .ok (.getfield 44, 3) := by decide +kernel
theorem dX6_slotRow_17 : decode cX6_slotRow 17 = .ok (.iload_n 1, 1) := by decide +kernel
theorem dX6_slotRow_18 : decode cX6_slotRow 18 = .ok (.aaload, 1) := by decide +kernel
theorem dX6_slotRow_19 : decode cX6_slotRow 19 = .ok (.goto 4, 3) := by decide +kernel
theorem dX6_slotRow_22 : decode cX6_slotRow 22 = .ok (.aconst_null, 1) := by decide +kernel
theorem dX6_slotRow_23 : decode cX6_slotRow 23 = .ok (.areturn, 1) := by decide +kernel
set_option maxRecDepth 20000 in
theorem ggX6_follow_X0_fileClaim : GoodIn wsX6_follow wsX0_fileClaim := goodIn_r _ [6, 7, 8, 4, 9, 10, 11, 12, 13, 14, 15, 16, 17, 18, 19, 20, 98, 99, 100, 101, 102, 103, 104, 105, 106, 107, 108, 109, 110] (by decide +kernel) (by decide +kernel)
set_option maxRecDepth 20000 in
theorem gX6_follow_X0_fileClaim_n60 : GoodIn wsX6_follow (wsX0_fileClaim) := ggX6_follow_X0_fileClaim
set_option maxRecDepth 20000 in
theorem ggX6_follow_X0_fileAnswer : GoodIn wsX6_follow wsX0_fileAnswer := goodIn_r _ [23, 24, 25, 26, 4, 27, 15, 20, 7, 8, 9, 16, 17, 18, 19, 10, 11, 12, 13, 14, 98, 99, 100, 101, 102, 103, 104, 105, 106, 107, 108, 109, 110] (by decide +kernel) (by decide +kernel)
set_option maxRecDepth 20000 in
theorem gX6_follow_X0_fileAnswer_n64 : GoodIn wsX6_follow (wsX0_fileAnswer) := ggX6_follow_X0_fileAnswer
set_option maxRecDepth 20000 in
theorem ggX6_follow_X0_takeBack : GoodIn wsX6_follow wsX0_takeBack := goodIn_r _ [30, 24, 25, 26, 4, 27, 15, 20, 31, 32, 33, 34, 35, 36, 37, 38, 14, 39, 40, 41, 42, 43, 44, 45, 46, 47, 48, 49, 50, 51, 52, 53, 54, 55, 56, 57, 58, 59, 60, 61, 62, 63, 64, 65, 66, 67, 68, 69, 70, 71, 72, 73, 74, 75, 98, 99, 100, 101, 102, 103, 104, 105, 106, 107, 108, 109, 110] (by decide +kernel) (by decide +kernel)
set_option maxRecDepth 20000 in
theorem gX6_follow_X0_takeBack_n67 : GoodIn wsX6_follow (wsX0_takeBack) := ggX6_follow_X0_takeBack
set_option maxRecDepth 20000 in
theorem ggX6_follow_X0_prolong : GoodIn wsX6_follow wsX0_prolong := goodIn_r _ [78, 14, 24, 25, 26, 4, 27, 15, 20, 98, 99, 100, 101, 102, 103, 104, 105, 106, 107, 108, 109, 110] (by decide +kernel) (by decide +kernel)
set_option maxRecDepth 20000 in
theorem gX6_follow_X0_prolong_n70 : GoodIn wsX6_follow (wsX0_prolong) := ggX6_follow_X0_prolong
set_option maxRecDepth 20000 in
theorem ggX6_follow_X0_turnCase : GoodIn wsX6_follow wsX0_turnCase := goodIn_r _ [81, 57, 62, 63, 64, 105, 106, 107, 108, 109, 110] (by decide +kernel) (by decide +kernel)
set_option maxRecDepth 20000 in
theorem gX6_follow_X0_turnCase_n73 : GoodIn wsX6_follow (wsX0_turnCase) := ggX6_follow_X0_turnCase
set_option maxRecDepth 20000 in
theorem ggX6_follow_X0_moveOn : GoodIn wsX6_follow wsX0_moveOn := goodIn_r _ [84, 14, 31, 32, 33, 4, 34, 35, 36, 37, 38, 39, 40, 41, 42, 15, 24, 25, 26, 27, 20, 43, 44, 45, 46, 47, 48, 49, 50, 51, 52, 53, 54, 55, 56, 57, 58, 59, 60, 61, 62, 63, 64, 65, 66, 67, 68, 69, 70, 71, 72, 73, 74, 75, 105, 106, 107, 108, 109, 110, 98, 99, 100, 101, 102, 103, 104] (by decide +kernel) (by decide +kernel)
set_option maxRecDepth 20000 in
theorem gX6_follow_X0_moveOn_n76 : GoodIn wsX6_follow (wsX0_moveOn) := ggX6_follow_X0_moveOn
theorem dX6_follow_0 : decode cX6_follow 0 = .ok (.aload_n 0, 1) := by decide +kernel
theorem dX6_follow_1 : decode cX6_follow 1 = .ok (.getfield 33, 3) := by decide +kernel
theorem dX6_follow_4 : decode cX6_follow 4 = .ok (.getfield 248, 3) := by decide +kernel
theorem dX6_follow_7 : decode cX6_follow 7 = .ok (.lookupswitch 175 #[(97, 86), (99, 57), (111, 145), (114, 130), (116, 160), (119, 115)], 57) := by decide +kernel
theorem dX6_follow_64 : decode cX6_follow 64 = .ok (.aload_n 0, 1) := by decide +kernel
theorem dX6_follow_65 : decode cX6_follow 65 = .ok (.getfield 12, 3) := by decide +kernel
theorem dX6_follow_68 : decode cX6_follow 68 = .ok (.aload_n 0, 1) := by decide +kernel
theorem dX6_follow_69 : decode cX6_follow 69 = .ok (.getfield 33, 3) := by decide +kernel
theorem dX6_follow_72 : decode cX6_follow 72 = .ok (.getfield 252, 3) := by decide +kernel
theorem dX6_follow_75 : decode cX6_follow 75 = .ok (.aload_n 0, 1) := by decide +kernel
theorem dX6_follow_76 : decode cX6_follow 76 = .ok (.getfield 33, 3) := by decide +kernel
theorem dX6_follow_79 : decode cX6_follow 79 = .ok (.getfield 255, 3) := by decide +kernel
theorem dX6_follow_82 : decode cX6_follow 82 = .ok (.aload_n 0, 1) := by decide +kernel
theorem dX6_follow_83 : decode cX6_follow 83 = .ok (.getfield 33, 3) := by decide +kernel
theorem dX6_follow_86 : decode cX6_follow 86 = .ok (.getfield 256, 3) := by decide +kernel
theorem dX6_follow_89 : decode cX6_follow 89 = .ok (.invokevirtual 60, 3) := by decide +kernel
theorem dX6_follow_92 : decode cX6_follow 92 = .ok (.ireturn, 1) := by decide +kernel
theorem dX6_follow_93 : decode cX6_follow 93 = .ok (.aload_n 0, 1) := by decide +kernel
theorem dX6_follow_94 : decode cX6_follow 94 = .ok (.getfield 12, 3) := by decide +kernel
theorem dX6_follow_97 : decode cX6_follow 97 = .ok (.aload_n 0, 1) := by decide +kernel
theorem dX6_follow_98 : decode cX6_follow 98 = .ok (.getfield 33, 3) := by decide +kernel
theorem dX6_follow_101 : decode cX6_follow 101 = .ok (.getfield 252, 3) := by decide +kernel
theorem dX6_follow_104 : decode cX6_follow 104 = .ok (.aload_n 0, 1) := by decide +kernel
theorem dX6_follow_105 : decode cX6_follow 105 = .ok (.getfield 33, 3) := by decide +kernel
theorem dX6_follow_108 : decode cX6_follow 108 = .ok (.getfield 255, 3) := by decide +kernel
theorem dX6_follow_111 : decode cX6_follow 111 = .ok (.aload_n 0, 1) := by decide +kernel
theorem dX6_follow_112 : decode cX6_follow 112 = .ok (.getfield 33, 3) := by decide +kernel
theorem dX6_follow_115 : decode cX6_follow 115 = .ok (.getfield 256, 3) := by decide +kernel
theorem dX6_follow_118 : decode cX6_follow 118 = .ok (.invokevirtual 64, 3) := by decide +kernel
theorem dX6_follow_121 : decode cX6_follow 121 = .ok (.ireturn, 1) := by decide +kernel
theorem dX6_follow_122 : decode cX6_follow 122 = .ok (.aload_n 0, 1) := by decide +kernel
theorem dX6_follow_123 : decode cX6_follow 123 = .ok (.getfield 12, 3) := by decide +kernel
theorem dX6_follow_126 : decode cX6_follow 126 = .ok (.aload_n 0, 1) := by decide +kernel
theorem dX6_follow_127 : decode cX6_follow 127 = .ok (.getfield 33, 3) := by decide +kernel
theorem dX6_follow_130 : decode cX6_follow 130 = .ok (.getfield 252, 3) := by decide +kernel
theorem dX6_follow_133 : decode cX6_follow 133 = .ok (.invokevirtual 67, 3) := by decide +kernel
theorem dX6_follow_136 : decode cX6_follow 136 = .ok (.ireturn, 1) := by decide +kernel
theorem dX6_follow_137 : decode cX6_follow 137 = .ok (.aload_n 0, 1) := by decide +kernel
theorem dX6_follow_138 : decode cX6_follow 138 = .ok (.getfield 12, 3) := by decide +kernel
theorem dX6_follow_141 : decode cX6_follow 141 = .ok (.aload_n 0, 1) := by decide +kernel
theorem dX6_follow_142 : decode cX6_follow 142 = .ok (.getfield 33, 3) := by decide +kernel
theorem dX6_follow_145 : decode cX6_follow 145 = .ok (.getfield 252, 3) := by decide +kernel
theorem dX6_follow_148 : decode cX6_follow 148 = .ok (.invokevirtual 70, 3) := by decide +kernel
theorem dX6_follow_151 : decode cX6_follow 151 = .ok (.ireturn, 1) := by decide +kernel
theorem dX6_follow_152 : decode cX6_follow 152 = .ok (.aload_n 0, 1) := by decide +kernel
theorem dX6_follow_153 : decode cX6_follow 153 = .ok (.getfield 12, 3) := by decide +kernel
theorem dX6_follow_156 : decode cX6_follow 156 = .ok (.aload_n 0, 1) := by decide +kernel
theorem dX6_follow_157 : decode cX6_follow 157 = .ok (.getfield 33, 3) := by decide +kernel
theorem dX6_follow_160 : decode cX6_follow 160 = .ok (.getfield 252, 3) := by decide +kernel
theorem dX6_follow_163 : decode cX6_follow 163 = .ok (.invokevirtual 73, 3) := by decide +kernel
theorem dX6_follow_166 : decode cX6_follow 166 = .ok (.ireturn, 1) := by decide +kernel
theorem dX6_follow_167 : decode cX6_follow 167 = .ok (.aload_n 0, 1) := by decide +kernel
theorem dX6_follow_168 : decode cX6_follow 168 = .ok (.getfield 12, 3) := by decide +kernel
theorem dX6_follow_171 : decode cX6_follow 171 = .ok (.aload_n 0, 1) := by decide +kernel
theorem dX6_follow_172 : decode cX6_follow 172 = .ok (.getfield 33, 3) := by decide +kernel
theorem dX6_follow_175 : decode cX6_follow 175 = .ok (.getfield 252, 3) := by decide +kernel
theorem dX6_follow_178 : decode cX6_follow 178 = .ok (.invokevirtual 76, 3) := by decide +kernel
theorem dX6_follow_181 : decode cX6_follow 181 = .ok (.ireturn, 1) := by decide +kernel
theorem dX6_follow_182 : decode cX6_follow 182 = .ok (.bipush (-3), 2) := by decide +kernel
theorem dX6_follow_184 : decode cX6_follow 184 = .ok (.ireturn, 1) := by decide +kernel
theorem dX6_has_0 : decode cX6_has 0 = .ok (.iload_n 0, 1) := by decide +kernel
theorem dX6_has_1 : decode cX6_has 1 = .ok (.iload_n 1, 1) := by decide +kernel
theorem dX6_has_2 : decode cX6_has 2 = .ok (.iushr, 1) := by decide +kernel
theorem dX6_has_3 : decode cX6_has 3 = .ok (.iconst 1, 1) := by decide +kernel
theorem dX6_has_4 : decode cX6_has 4 = .ok (.iand, 1) := by decide +kernel
theorem dX6_has_5 : decode cX6_has 5 = .ok (.iconst 1, 1) := by decide +kernel
theorem dX6_has_6 : decode cX6_has 6 = .ok (.if_icmp .ne 7, 3) := by decide +kernel
theorem dX6_has_9 : decode cX6_has 9 = .ok (.iconst 1, 1) := by decide +kernel
theorem dX6_has_10 : decode cX6_has 10 = .ok (.goto 4, 3) := by decide +kernel
theorem dX6_has_13 : decode cX6_has 13 = .ok (.iconst 0, 1) := by decide +kernel
theorem dX6_has_14 : decode cX6_has 14 = .ok (.ireturn, 1) := by decide +kernel
set_option maxRecDepth 20000 in
theorem ggX6_lowestOf_X6_has : GoodIn wsX6_lowestOf wsX6_has := goodIn_r _ [4] (by decide +kernel) (by decide +kernel)
set_option maxRecDepth 20000 in
theorem gX6_lowestOf_X6_has : GoodIn wsX6_lowestOf (va_wsS RX6 105 yX6_has wsX6_has) := goodIn_app (goodIn_of _ (by decide +kernel)) ggX6_lowestOf_X6_has
theorem dX6_lowestOf_0 : decode cX6_lowestOf 0 = .ok (.iconst 0, 1) := by decide +kernel
theorem dX6_lowestOf_1 : decode cX6_lowestOf 1 = .ok (.istore_n 1, 1) := by decide +kernel
theorem dX6_lowestOf_2 : decode cX6_lowestOf 2 = .ok (.iload_n 1, 1) := by decide +kernel
theorem dX6_lowestOf_3 : decode cX6_lowestOf 3 = .ok (.bipush 24, 2) := by decide +kernel
theorem dX6_lowestOf_5 : decode cX6_lowestOf 5 = .ok (.if_icmp .ge 19, 3) := by decide +kernel
theorem dX6_lowestOf_8 : decode cX6_lowestOf 8 = .ok (.iload_n 0, 1) := by decide +kernel
theorem dX6_lowestOf_9 : decode cX6_lowestOf 9 = .ok (.iload_n 1, 1) := by decide +kernel
theorem dX6_lowestOf_10 : decode cX6_lowestOf 10 = .ok (.invokestatic 105, 3) := by decide +kernel
theorem dX6_lowestOf_13 : decode cX6_lowestOf 13 = .ok (.ifCond .eq 5, 3) := by decide +kernel
theorem dX6_lowestOf_16 : decode cX6_lowestOf 16 = .ok (.iload_n 1, 1) := by decide +kernel
theorem dX6_lowestOf_17 : decode cX6_lowestOf 17 = .ok (.ireturn, 1) := by decide +kernel
theorem dX6_lowestOf_18 : decode cX6_lowestOf 18 = .ok (.iinc 1 1, 3) := by decide +kernel
theorem dX6_lowestOf_21 : decode cX6_lowestOf 21 = .ok (.goto (-19), 3) := by decide +kernel
theorem dX6_lowestOf_24 : decode cX6_lowestOf 24 = .ok (.bipush (-6), 2) := by decide +kernel
theorem dX6_lowestOf_26 : decode cX6_lowestOf 26 = .ok (.ireturn, 1) := by decide +kernel
theorem dX6_floatBits_0 : decode cX6_floatBits 0 = .ok (.iload_n 0, 1) := by decide +kernel
theorem dX6_floatBits_1 : decode cX6_floatBits 1 = .ok (.ifCond .le 7, 3) := by decide +kernel
theorem dX6_floatBits_4 : decode cX6_floatBits 4 = .ok (.iload_n 1, 1) := by decide +kernel
theorem dX6_floatBits_5 : decode cX6_floatBits 5 = .ok (.ifCond .gt 5, 3) := by decide +kernel
theorem dX6_floatBits_8 : decode cX6_floatBits 8 = .ok (.iconst 0, 1) := by decide +kernel
theorem dX6_floatBits_9 : decode cX6_floatBits 9 = .ok (.ireturn, 1) := by decide +kernel
theorem dX6_floatBits_10 : decode cX6_floatBits 10 = .ok (.iload_n 0, 1) := by decide +kernel
theorem dX6_floatBits_11 : decode cX6_floatBits 11 = .ok (.i2l, 1) := by decide +kernel
theorem dX6_floatBits_12 : decode cX6_floatBits 12 = .ok (.lstore_n 2, 1) := by decide +kernel
theorem dX6_floatBits_13 : decode cX6_floatBits 13 = .ok (.bipush 127, 2) := by decide +kernel
theorem dX6_floatBits_15 : decode cX6_floatBits 15 = .ok (.istore 4, 2) := by decide +kernel
theorem dX6_floatBits_17 : decode cX6_floatBits 17 = .ok (.lload_n 2, 1) := by decide +kernel
theorem dX6_floatBits_18 : decode cX6_floatBits 18 = .ok (.iload_n 1, 1) := by decide +kernel
theorem dX6_floatBits_19 : decode cX6_floatBits 19 = .ok (.i2l, 1) := by decide +kernel
theorem dX6_floatBits_20 : decode cX6_floatBits 20 = .ok (.lcmp, 1) := by decide +kernel
theorem dX6_floatBits_21 : decode cX6_floatBits 21 = .ok (.ifCond .ge 20, 3) := by decide +kernel
theorem dX6_floatBits_24 : decode cX6_floatBits 24 = .ok (.iload 4, 2) := by decide +kernel
theorem dX6_floatBits_26 : decode cX6_floatBits 26 = .ok (.ifCond .le 15, 3) := by decide +kernel
theorem dX6_floatBits_29 : decode cX6_floatBits 29 = .ok (.lload_n 2, 1) := by decide +kernel
theorem dX6_floatBits_30 : decode cX6_floatBits 30 = .ok (.ldc2_w 257, 3) := by decide +kernel
theorem dX6_floatBits_33 : decode cX6_floatBits 33 = .ok (.lmul, 1) := by decide +kernel
theorem dX6_floatBits_34 : decode cX6_floatBits 34 = .ok (.lstore_n 2, 1) := by decide +kernel
theorem dX6_floatBits_35 : decode cX6_floatBits 35 = .ok (.iinc 4 (-1), 3) := by decide +kernel
theorem dX6_floatBits_38 : decode cX6_floatBits 38 = .ok (.goto (-21), 3) := by decide +kernel
theorem dX6_floatBits_41 : decode cX6_floatBits 41 = .ok (.lload_n 2, 1) := by decide +kernel
theorem dX6_floatBits_42 : decode cX6_floatBits 42 = .ok (.bipush 23, 2) := by decide +kernel
theorem dX6_floatBits_44 : decode cX6_floatBits 44 = .ok (.lshl, 1) := by decide +kernel
theorem dX6_floatBits_45 : decode cX6_floatBits 45 = .ok (.lstore 5, 2) := by decide +kernel
theorem dX6_floatBits_47 : decode cX6_floatBits 47 = .ok (.lload 5, 2) := by decide +kernel
theorem dX6_floatBits_49 : decode cX6_floatBits 49 = .ok (.iload_n 1, 1) := by decide +kernel
theorem dX6_floatBits_50 : decode cX6_floatBits 50 = .ok (.i2l, 1) := by decide +kernel
theorem dX6_floatBits_51 : decode cX6_floatBits 51 = .ok (.ldiv, 1) := by decide +kernel
theorem dX6_floatBits_52 : decode cX6_floatBits 52 = .ok (.lstore 7, 2) := by decide +kernel
theorem dX6_floatBits_54 : decode cX6_floatBits 54 = .ok (.ldc2_w 257, 3) := by decide +kernel
theorem dX6_floatBits_57 : decode cX6_floatBits 57 = .ok (.lload 5, 2) := by decide +kernel
theorem dX6_floatBits_59 : decode cX6_floatBits 59 = .ok (.iload_n 1, 1) := by decide +kernel
theorem dX6_floatBits_60 : decode cX6_floatBits 60 = .ok (.i2l, 1) := by decide +kernel
theorem dX6_floatBits_61 : decode cX6_floatBits 61 = .ok (.lrem, 1) := by decide +kernel
theorem dX6_floatBits_62 : decode cX6_floatBits 62 = .ok (.lmul, 1) := by decide +kernel
theorem dX6_floatBits_63 : decode cX6_floatBits 63 = .ok (.iload_n 1, 1) := by decide +kernel
theorem dX6_floatBits_64 : decode cX6_floatBits 64 = .ok (.i2l, 1) := by decide +kernel
theorem dX6_floatBits_65 : decode cX6_floatBits 65 = .ok (.lcmp, 1) := by decide +kernel
theorem dX6_floatBits_66 : decode cX6_floatBits 66 = .ok (.ifCond .le 9, 3) := by decide +kernel
theorem dX6_floatBits_69 : decode cX6_floatBits 69 = .ok (.lload 7, 2) := by decide +kernel
theorem dX6_floatBits_71 : decode cX6_floatBits 71 = .ok (.lconst 1, 1) := by decide +kernel
theorem dX6_floatBits_72 : decode cX6_floatBits 72 = .ok (.ladd, 1) := by decide +kernel
theorem dX6_floatBits_73 : decode cX6_floatBits 73 = .ok (.lstore 7, 2) := by decide +kernel
theorem dX6_floatBits_75 : decode cX6_floatBits 75 = .ok (.iload 4, 2) := by decide +kernel
theorem dX6_floatBits_77 : decode cX6_floatBits 77 = .ok (.bipush 23, 2) := by decide +kernel
theorem dX6_floatBits_79 : decode cX6_floatBits 79 = .ok (.ishl, 1) := by decide +kernel
theorem dX6_floatBits_80 : decode cX6_floatBits 80 = .ok (.lload 7, 2) := by decide +kernel
theorem dX6_floatBits_82 : decode cX6_floatBits 82 = .ok (.ldc2_w 259, 3) := by decide +kernel
theorem dX6_floatBits_85 : decode cX6_floatBits 85 = .ok (.lsub, 1) := by decide +kernel
theorem dX6_floatBits_86 : decode cX6_floatBits 86 = .ok (.l2i, 1) := by decide +kernel
theorem dX6_floatBits_87 : decode cX6_floatBits 87 = .ok (.iadd, 1) := by decide +kernel
theorem dX6_floatBits_88 : decode cX6_floatBits 88 = .ok (.ireturn, 1) := by decide +kernel
theorem dX7_init_0 : decode cX7_init 0 = .ok (.aload_n 0, 1) := by decide +kernel
theorem dX7_init_1 : decode cX7_init 1 = .ok (.invokespecial 1, 3) := by decide +kernel
theorem dX7_init_4 : decode cX7_init 4 = .ok (.aload_n 0, 1) := by decide +kernel
theorem dX7_init_5 : decode cX7_init 5 = .ok (.sipush 173, 3) := by decide +kernel
theorem dX7_init_8 : decode cX7_init 8 = .ok (.newarray .int, 2) := by decide +kernel
theorem dX7_init_10 : decode cX7_init 10 = .ok (.putfield 7, 3) := by decide +kernel
theorem dX7_init_13 : decode cX7_init 13 = .ok (.aload_n 0, 1) := by decide +kernel
theorem dX7_init_14 : decode cX7_init 14 = .ok (.sipush 1038, 3) := by decide +kernel
theorem dX7_init_17 : decode cX7_init 17 = .ok (.newarray .int, 2) := by decide +kernel
theorem dX7_init_19 : decode cX7_init 19 = .ok (.putfield 13, 3) := by decide +kernel
theorem dX7_init_22 : decode cX7_init 22 = .ok (.aload_n 0, 1) := by decide +kernel
theorem dX7_init_23 : decode cX7_init 23 = .ok (.sipush 346, 3) := by decide +kernel
theorem dX7_init_26 : decode cX7_init 26 = .ok (.newarray .int, 2) := by decide +kernel
theorem dX7_init_28 : decode cX7_init 28 = .ok (.putfield 16, 3) := by decide +kernel
theorem dX7_init_31 : decode cX7_init 31 = .ok (.aload_n 0, 1) := by decide +kernel
theorem dX7_init_32 : decode cX7_init 32 = .ok (.iconst 2, 1) := by decide +kernel
theorem dX7_init_33 : decode cX7_init 33 = .ok (.newarray .boolean, 2) := by decide +kernel
theorem dX7_init_35 : decode cX7_init 35 = .ok (.putfield 19, 3) := by decide +kernel
theorem dX7_init_38 : decode cX7_init 38 = .ok (.aload_n 0, 1) := by decide +kernel
theorem dX7_init_39 : decode cX7_init 39 = .ok (.bipush 80, 2) := by decide +kernel
theorem dX7_init_41 : decode cX7_init 41 = .ok (.newarray .char, 2) := by decide +kernel
theorem dX7_init_43 : decode cX7_init 43 = .ok (.putfield 23, 3) := by decide +kernel
theorem dX7_init_46 : decode cX7_init 46 = .ok (.aload_n 0, 1) := by decide +kernel
theorem dX7_init_47 : decode cX7_init 47 = .ok (.bipush 24, 2) := by decide +kernel
theorem dX7_init_49 : decode cX7_init 49 = .ok (.newarray .int, 2) := by decide +kernel
theorem dX7_init_51 : decode cX7_init 51 = .ok (.putfield 27, 3) := by decide +kernel
theorem dX7_init_54 : decode cX7_init 54 = .ok (.aload_n 0, 1) := by decide +kernel
theorem dX7_init_55 : decode cX7_init 55 = .ok (.iconst 2, 1) := by decide +kernel
theorem dX7_init_56 : decode cX7_init 56 = .ok (.newarray .int, 2) := by decide +kernel
theorem dX7_init_58 : decode cX7_init 58 = .ok (.putfield 30, 3) := by decide +kernel
theorem dX7_init_61 : decode cX7_init 61 = .ok (.aload_n 0, 1) := by decide +kernel
theorem dX7_init_62 : decode cX7_init 62 = .ok (.bipush 24, 2) := by decide +kernel
theorem dX7_init_64 : decode cX7_init 64 = .ok (.newarray .int, 2) := by decide +kernel
theorem dX7_init_66 : decode cX7_init 66 = .ok (.putfield 33, 3) := by decide +kernel
theorem dX7_init_69 : decode cX7_init 69 = .ok (.aload_n 0, 1) := by decide +kernel
theorem dX7_init_70 : decode cX7_init 70 = .ok (.bipush 24, 2) := by decide +kernel
theorem dX7_init_72 : decode cX7_init 72 = .ok (.newarray .int, 2) := by decide +kernel
theorem dX7_init_74 : decode cX7_init 74 = .ok (.putfield 36, 3) := by decide +kernel
theorem dX7_init_77 : decode cX7_init 77 = .ok (.aload_n 0, 1) := by decide +kernel
theorem dX7_init_78 : decode cX7_init 78 = .ok (.bipush 112, 2) := by decide +kernel
theorem dX7_init_80 : decode cX7_init 80 = .ok (.newarray .int, 2) := by decide +kernel
theorem dX7_init_82 : decode cX7_init 82 = .ok (.putfield 39, 3) := by decide +kernel
theorem dX7_init_85 : decode cX7_init 85 = .ok (.aload_n 0, 1) := by decide +kernel
theorem dX7_init_86 : decode cX7_init 86 = .ok (.getfield 7, 3) := by decide +kernel
theorem dX7_init_89 : decode cX7_init 89 = .ok (.iconst 0, 1) := by decide +kernel
theorem dX7_init_90 : decode cX7_init 90 = .ok (.bipush 14, 2) := by decide +kernel
theorem dX7_init_92 : decode cX7_init 92 = .ok (.iastore, 1) := by decide +kernel
theorem dX7_init_93 : decode cX7_init 93 = .ok (.aload_n 0, 1) := by decide +kernel
theorem dX7_init_94 : decode cX7_init 94 = .ok (.getfield 7, 3) := by decide +kernel
theorem dX7_init_97 : decode cX7_init 97 = .ok (.iconst 1, 1) := by decide +kernel
theorem dX7_init_98 : decode cX7_init 98 = .ok (.bipush 30, 2) := by decide +kernel
theorem dX7_init_100 : decode cX7_init 100 = .ok (.iastore, 1) := by decide +kernel
theorem dX7_init_101 : decode cX7_init 101 = .ok (.return_, 1) := by decide +kernel
theorem dX7_in_0 : decode cX7_in 0 = .ok (.iload_n 0, 1) := by decide +kernel
theorem dX7_in_1 : decode cX7_in 1 = .ok (.iload_n 1, 1) := by decide +kernel
theorem dX7_in_2 : decode cX7_in 2 = .ok (.if_icmp .lt 12, 3) := by decide +kernel
theorem dX7_in_5 : decode cX7_in 5 = .ok (.iload_n 0, 1) := by decide +kernel
theorem dX7_in_6 : decode cX7_in 6 = .ok (.iload_n 2, 1) := by decide +kernel
theorem dX7_in_7 : decode cX7_in 7 = .ok (.if_icmp .gt 7, 3) := by decide +kernel
theorem dX7_in_10 : decode cX7_in 10 = .ok (.iconst 1, 1) := by decide +kernel
theorem dX7_in_11 : decode cX7_in 11 = .ok (.goto 4, 3) := by decide +kernel
theorem dX7_in_14 : decode cX7_in 14 = .ok (.iconst 0, 1) := by decide +kernel
theorem dX7_in_15 : decode cX7_in 15 = .ok (.ireturn, 1) := by decide +kernel
theorem dX7_isPoint_0 : decode cX7_isPoint 0 = .ok (.iload_n 1, 1) := by decide +kernel
theorem dX7_isPoint_1 : decode cX7_isPoint 1 = .ok (.ifCond .lt 17, 3) := by decide +kernel
theorem dX7_isPoint_4 : decode cX7_isPoint 4 = .ok (.iload_n 1, 1) := by decide +kernel
theorem dX7_isPoint_5 : decode cX7_isPoint 5 = .ok (.aload_n 0, 1) := by decide +kernel
theorem dX7_isPoint_6 : decode cX7_isPoint 6 = .ok (.getfield 7, 3) := by decide +kernel
theorem dX7_isPoint_9 : decode cX7_isPoint 9 = .ok (.iconst 3, 1) := by decide +kernel
theorem dX7_isPoint_10 : decode cX7_isPoint 10 = .ok (.iaload, 1) := by decide +kernel
theorem dX7_isPoint_11 : decode cX7_isPoint 11 = .ok (.if_icmp .ge 7, 3) := by decide +kernel
theorem dX7_isPoint_14 : decode cX7_isPoint 14 = .ok (.iconst 1, 1) := by decide +kernel
theorem dX7_isPoint_15 : decode cX7_isPoint 15 = .ok (.goto 4, 3) := by decide +kernel
theorem dX7_isPoint_18 : decode cX7_isPoint 18 = .ok (.iconst 0, 1) := by decide +kernel
theorem dX7_isPoint_19 : decode cX7_isPoint 19 = .ok (.ireturn, 1) := by decide +kernel
theorem dX7_its_0 : decode cX7_its 0 = .ok (.aload_n 0, 1) := by decide +kernel
theorem dX7_its_1 : decode cX7_its 1 = .ok (.getfield 7, 3) := by decide +kernel
theorem dX7_its_4 : decode cX7_its 4 = .ok (.iconst 5, 1) := by decide +kernel
theorem dX7_its_5 : decode cX7_its 5 = .ok (.bipush 7, 2) := by decide +kernel
theorem dX7_its_7 : decode cX7_its 7 = .ok (.iload_n 1, 1) := by decide +kernel
theorem dX7_its_8 : decode cX7_its 8 = .ok (.imul, 1) := by decide +kernel
theorem dX7_its_9 : decode cX7_its 9 = .ok (.iadd, 1) := by decide +kernel
theorem dX7_its_10 : decode cX7_its 10 = .ok (.iload_n 2, 1) := by decide +kernel
theorem dX7_its_11 : decode cX7_its 11 = .ok (.iadd, 1) := by decide +kernel
theorem dX7_its_12 : decode cX7_its 12 = .ok (.iaload, 1) := by decide +kernel
theorem dX7_its_13 : decode cX7_its 13 = .ok (.ireturn, 1) := by decide +kernel
theorem dX7_lay_0 : decode cX7_lay 0 = .ok (.aload_n 0, 1) := by decide +kernel
theorem dX7_lay_1 : decode cX7_lay 1 = .ok (.getfield 7, 3) := by decide +kernel
theorem dX7_lay_4 : decode cX7_lay 4 = .ok (.iconst 5, 1) := by decide +kernel
theorem dX7_lay_5 : decode cX7_lay 5 = .ok (.bipush 7, 2) := by decide +kernel
theorem dX7_lay_7 : decode cX7_lay 7 = .ok (.iload_n 1, 1) := by decide +kernel
theorem dX7_lay_8 : decode cX7_lay 8 = .ok (.imul, 1) := by decide +kernel
theorem dX7_lay_9 : decode cX7_lay 9 = .ok (.iadd, 1) := by decide +kernel
theorem dX7_lay_10 : decode cX7_lay 10 = .ok (.iload_n 2, 1) := by decide +kernel
theorem dX7_lay_11 : decode cX7_lay 11 = .ok (.iadd, 1) := by decide +kernel
theorem dX7_lay_12 : decode cX7_lay 12 = .ok (.iload_n 3, 1) := by decide +kernel
theorem dX7_lay_13 : decode cX7_lay 13 = .ok (.iastore, 1) := by decide +kernel
theorem dX7_lay_14 : decode cX7_lay 14 = .ok (.return_, 1) := by decide +kernel
set_option maxRecDepth 20000 in
theorem ggX7_isClaim_X7_its : GoodIn wsX7_isClaim wsX7_its := goodIn_r _ [5, 6, 7, 8, 9, 10, 11, 12, 13, 14, 15, 16, 17, 18, 19, 20, 21] (by decide +kernel) (by decide +kernel)
set_option maxRecDepth 20000 in
theorem gX7_isClaim_X7_its : GoodIn wsX7_isClaim (wsV RX7 42 RX7 yX7_its wsX7_its) := goodIn_app (goodIn_of _ (by decide +kernel)) ggX7_isClaim_X7_its
theorem dX7_isClaim_0 : decode cX7_isClaim 0 = .ok (.aload_n 0, 1) := by decide +kernel
theorem dX7_isClaim_1 : decode cX7_isClaim 1 = .ok (.iload_n 1, 1) := by decide +kernel
theorem dX7_isClaim_2 : decode cX7_isClaim 2 = .ok (.iconst 4, 1) := by decide +kernel
theorem dX7_isClaim_3 : decode cX7_isClaim 3 = .ok (.invokevirtual 42, 3) := by decide +kernel
theorem dX7_isClaim_6 : decode cX7_isClaim 6 = .ok (.bipush (-6), 2) := by decide +kernel
theorem dX7_isClaim_8 : decode cX7_isClaim 8 = .ok (.if_icmp .ne 7, 3) := by decide +kernel
theorem dX7_isClaim_11 : decode cX7_isClaim 11 = .ok (.iconst 1, 1) := by decide +kernel
theorem dX7_isClaim_12 : decode cX7_isClaim 12 = .ok (.goto 4, 3) := by decide +kernel
theorem dX7_isClaim_15 : decode cX7_isClaim 15 = .ok (.iconst 0, 1) := by decide +kernel
theorem dX7_isClaim_16 : decode cX7_isClaim 16 = .ok (.ireturn, 1) := by decide +kernel
set_option maxRecDepth 20000 in
theorem ggX7_isWithdrawn_X7_its : GoodIn wsX7_isWithdrawn wsX7_its := goodIn_r _ [5, 6, 7, 8, 9, 10, 11, 12, 13, 14, 15, 16, 17, 18, 19, 20, 21] (by decide +kernel) (by decide +kernel)
set_option maxRecDepth 20000 in
theorem gX7_isWithdrawn_X7_its : GoodIn wsX7_isWithdrawn (wsV RX7 42 RX7 yX7_its wsX7_its) := goodIn_app (goodIn_of _ (by decide +kernel)) ggX7_isWithdrawn_X7_its
theorem dX7_isWithdrawn_0 : decode cX7_isWithdrawn 0 = .ok (.aload_n 0, 1) := by decide +kernel
theorem dX7_isWithdrawn_1 : decode cX7_isWithdrawn 1 = .ok (.iload_n 1, 1) := by decide +kernel
theorem dX7_isWithdrawn_2 : decode cX7_isWithdrawn 2 = .ok (.bipush 6, 2) := by decide +kernel
theorem dX7_isWithdrawn_4 : decode cX7_isWithdrawn 4 = .ok (.invokevirtual 42, 3) := by decide +kernel
theorem dX7_isWithdrawn_7 : decode cX7_isWithdrawn 7 = .ok (.iconst 1, 1) := by decide +kernel
theorem dX7_isWithdrawn_8 : decode cX7_isWithdrawn 8 = .ok (.if_icmp .ne 7, 3) := by decide +kernel
theorem dX7_isWithdrawn_11 : decode cX7_isWithdrawn 11 = .ok (.iconst 1, 1) := by decide +kernel
theorem dX7_isWithdrawn_12 : decode cX7_isWithdrawn 12 = .ok (.goto 4, 3) := by decide +kernel
theorem dX7_isWithdrawn_15 : decode cX7_isWithdrawn 15 = .ok (.iconst 0, 1) := by decide +kernel
theorem dX7_isWithdrawn_16 : decode cX7_isWithdrawn 16 = .ok (.ireturn, 1) := by decide +kernel
theorem dX7_bits_0 : decode cX7_bits 0 = .ok (.iconst 0, 1) := by decide +kernel
theorem dX7_bits_1 : decode cX7_bits 1 = .ok (.istore_n 1, 1) := by decide +kernel
theorem dX7_bits_2 : decode cX7_bits 2 = .ok (.iload_n 0, 1) := by decide +kernel
theorem dX7_bits_3 : decode cX7_bits 3 = .ok (.istore_n 2, 1) := by decide +kernel
theorem dX7_bits_4 : decode cX7_bits 4 = .ok (.iload_n 2, 1) := by decide +kernel
theorem dX7_bits_5 : decode cX7_bits 5 = .ok (.ifCond .eq 15, 3) := by decide +kernel
theorem dX7_bits_8 : decode cX7_bits 8 = .ok (.iinc 1 1, 3) := by decide +kernel
theorem dX7_bits_11 : decode cX7_bits 11 = .ok (.iload_n 2, 1) := by decide +kernel
theorem dX7_bits_12 : decode cX7_bits 12 = .ok (.iload_n 2, 1) := by decide +kernel
theorem dX7_bits_13 : decode cX7_bits 13 = .ok (.iconst 1, 1) := by decide +kernel
theorem dX7_bits_14 : decode cX7_bits 14 = .ok (.isub, 1) := by decide +kernel
theorem dX7_bits_15 : decode cX7_bits 15 = .ok (.iand, 1) := by decide +kernel
theorem dX7_bits_16 : decode cX7_bits 16 = .ok (.istore_n 2, 1) := by decide +kernel
theorem dX7_bits_17 : decode cX7_bits 17 = .ok (.goto (-13), 3) := by decide +kernel
theorem dX7_bits_20 : decode cX7_bits 20 = .ok (.iload_n 1, 1) := by decide +kernel
theorem dX7_bits_21 : decode cX7_bits 21 = .ok (.ireturn, 1) := by decide +kernel
theorem dX7_record_0 : decode cX7_record 0 = .ok (.aload_n 0, 1) := by decide +kernel
theorem dX7_record_1 : decode cX7_record 1 = .ok (.getfield 46, 3) := by decide +kernel
theorem dX7_record_4 : decode cX7_record 4 = .ok (.bipush 6, 2) := by decide +kernel
theorem dX7_record_6 : decode cX7_record 6 = .ok (.if_icmp .ne 44, 3) := by decide +kernel
theorem dX7_record_9 : decode cX7_record 9 = .ok (.iconst 0, 1) := by decide +kernel
theorem dX7_record_10 : decode cX7_record 10 = .ok (.istore_n 1, 1) := by decide +kernel
theorem dX7_record_11 : decode cX7_record 11 = .ok (.iload_n 1, 1) := by decide +kernel
theorem dX7_record_12 : decode cX7_record 12 = .ok (.sipush 865, 3) := by decide +kernel
theorem dX7_record_15 : decode cX7_record 15 = .ok (.if_icmp .ge 25, 3) := by decide +kernel
theorem dX7_record_18 : decode cX7_record 18 = .ok (.aload_n 0, 1) := by decide +kernel
theorem dX7_record_19 : decode cX7_record 19 = .ok (.getfield 13, 3) := by decide +kernel
theorem dX7_record_22 : decode cX7_record 22 = .ok (.iload_n 1, 1) := by decide +kernel
theorem dX7_record_23 : decode cX7_record 23 = .ok (.aload_n 0, 1) := by decide +kernel
theorem dX7_record_24 : decode cX7_record 24 = .ok (.getfield 13, 3) := by decide +kernel
theorem dX7_record_27 : decode cX7_record 27 = .ok (.iload_n 1, 1) := by decide +kernel
theorem dX7_record_28 : decode cX7_record 28 = .ok (.sipush 173, 3) := by decide +kernel
theorem dX7_record_31 : decode cX7_record 31 = .ok (.iadd, 1) := by decide +kernel
theorem dX7_record_32 : decode cX7_record 32 = .ok (.iaload, 1) := by decide +kernel
theorem dX7_record_33 : decode cX7_record 33 = .ok (.iastore, 1) := by decide +kernel
theorem dX7_record_34 : decode cX7_record 34 = .ok (.iinc 1 1, 3) := by decide +kernel
theorem dX7_record_37 : decode cX7_record 37 = .ok (.goto (-26), 3) := by decide +kernel
theorem dX7_record_40 : decode cX7_record 40 = .ok (.aload_n 0, 1) := by decide +kernel
theorem dX7_record_41 : decode cX7_record 41 = .ok (.dup, 1) := by decide +kernel
theorem dX7_record_42 : decode cX7_record 42 = .ok (.getfield 46, 3) := by decide +kernel
theorem dX7_record_45 : decode cX7_record 45 = .ok (.iconst 1, 1) := by decide +kernel
theorem dX7_record_46 : decode cX7_record 46 = .ok (.isub, 1) := by decide +kernel
theorem dX7_record_47 : decode cX7_record 47 = .ok (.putfield 46, 3) := by decide +kernel
theorem dX7_record_50 : decode cX7_record 50 = .ok (.iconst 0, 1) := by decide +kernel
theorem dX7_record_51 : decode cX7_record 51 = .ok (.istore_n 1, 1) := by decide +kernel
theorem dX7_record_52 : decode cX7_record 52 = .ok (.iload_n 1, 1) := by decide +kernel
theorem dX7_record_53 : decode cX7_record 53 = .ok (.sipush 173, 3) := by decide +kernel
theorem dX7_record_56 : decode cX7_record 56 = .ok (.if_icmp .ge 30, 3) := by decide +kernel
theorem dX7_record_59 : decode cX7_record 59 = .ok (.aload_n 0, 1) := by decide +kernel
theorem dX7_record_60 : decode cX7_record 60 = .ok (.getfield 13, 3) := by decide +kernel
theorem dX7_record_63 : decode cX7_record 63 = .ok (.aload_n 0, 1) := by decide +kernel
theorem dX7_record_64 : decode cX7_record 64 = .ok (.getfield 46, 3) := by decide +kernel
theorem dX7_record_67 : decode cX7_record 67 = .ok (.sipush 173, 3) := by decide +kernel
theorem dX7_record_70 : decode cX7_record 70 = .ok (.imul, 1) := by decide +kernel
theorem dX7_record_71 : decode cX7_record 71 = .ok (.iload_n 1, 1) := by decide +kernel
theorem dX7_record_72 : decode cX7_record 72 = .ok (.iadd, 1) := by decide +kernel
theorem dX7_record_73 : decode cX7_record 73 = .ok (.aload_n 0, 1) := by decide +kernel
theorem dX7_record_74 : decode cX7_record 74 = .ok (.getfield 7, 3) := by decide +kernel
theorem dX7_record_77 : decode cX7_record 77 = .ok (.iload_n 1, 1) := by decide +kernel
theorem dX7_record_78 : decode cX7_record 78 = .ok (.iaload, 1) := by decide +kernel
theorem dX7_record_79 : decode cX7_record 79 = .ok (.iastore, 1) := by decide +kernel
theorem dX7_record_80 : decode cX7_record 80 = .ok (.iinc 1 1, 3) := by decide +kernel
theorem dX7_record_83 : decode cX7_record 83 = .ok (.goto (-31), 3) := by decide +kernel
theorem dX7_record_86 : decode cX7_record 86 = .ok (.aload_n 0, 1) := by decide +kernel
theorem dX7_record_87 : decode cX7_record 87 = .ok (.dup, 1) := by decide +kernel
theorem dX7_record_88 : decode cX7_record 88 = .ok (.getfield 46, 3) := by decide +kernel
theorem dX7_record_91 : decode cX7_record 91 = .ok (.iconst 1, 1) := by decide +kernel
theorem dX7_record_92 : decode cX7_record 92 = .ok (.iadd, 1) := by decide +kernel
theorem dX7_record_93 : decode cX7_record 93 = .ok (.putfield 46, 3) := by decide +kernel
theorem dX7_record_96 : decode cX7_record 96 = .ok (.return_, 1) := by decide +kernel
theorem dX7_undo_0 : decode cX7_undo 0 = .ok (.aload_n 0, 1) := by decide +kernel
theorem dX7_undo_1 : decode cX7_undo 1 = .ok (.getfield 46, 3) := by decide +kernel
theorem dX7_undo_4 : decode cX7_undo 4 = .ok (.ifCond .ne 6, 3) := by decide +kernel
theorem dX7_undo_7 : decode cX7_undo 7 = .ok (.bipush (-5), 2) := by decide +kernel
theorem dX7_undo_9 : decode cX7_undo 9 = .ok (.ireturn, 1) := by decide +kernel
theorem dX7_undo_10 : decode cX7_undo 10 = .ok (.aload_n 0, 1) := by decide +kernel
theorem dX7_undo_11 : decode cX7_undo 11 = .ok (.dup, 1) := by decide +kernel
theorem dX7_undo_12 : decode cX7_undo 12 = .ok (.getfield 46, 3) := by decide +kernel
theorem dX7_undo_15 : decode cX7_undo 15 = .ok (.iconst 1, 1) := by decide +kernel
theorem dX7_undo_16 : decode cX7_undo 16 = .ok (.isub, 1) := by decide +kernel
theorem dX7_undo_17 : decode cX7_undo 17 = .ok (.putfield 46, 3) := by decide +kernel
theorem dX7_undo_20 : decode cX7_undo 20 = .ok (.iconst 0, 1) := by decide +kernel
theorem dX7_undo_21 : decode cX7_undo 21 = .ok (.istore_n 1, 1) := by decide +kernel
theorem dX7_undo_22 : decode cX7_undo 22 = .ok (.iload_n 1, 1) := by decide +kernel
theorem dX7_undo_23 : decode cX7_undo 23 = .ok (.sipush 173, 3) := by decide +kernel
theorem dX7_undo_26 : decode cX7_undo 26 = .ok (.if_icmp .ge 30, 3) := by decide +kernel
theorem dX7_undo_29 : decode cX7_undo 29 = .ok (.aload_n 0, 1) := by decide +kernel
theorem dX7_undo_30 : decode cX7_undo 30 = .ok (.getfield 7, 3) := by decide +kernel
theorem dX7_undo_33 : decode cX7_undo 33 = .ok (.iload_n 1, 1) := by decide +kernel
theorem dX7_undo_34 : decode cX7_undo 34 = .ok (.aload_n 0, 1) := by decide +kernel
theorem dX7_undo_35 : decode cX7_undo 35 = .ok (.getfield 13, 3) := by decide +kernel
theorem dX7_undo_38 : decode cX7_undo 38 = .ok (.aload_n 0, 1) := by decide +kernel
theorem dX7_undo_39 : decode cX7_undo 39 = .ok (.getfield 46, 3) := by decide +kernel
theorem dX7_undo_42 : decode cX7_undo 42 = .ok (.sipush 173, 3) := by decide +kernel
theorem dX7_undo_45 : decode cX7_undo 45 = .ok (.imul, 1) := by decide +kernel
theorem dX7_undo_46 : decode cX7_undo 46 = .ok (.iload_n 1, 1) := by decide +kernel
theorem dX7_undo_47 : decode cX7_undo 47 = .ok (.iadd, 1) := by decide +kernel
theorem dX7_undo_48 : decode cX7_undo 48 = .ok (.iaload, 1) := by decide +kernel
theorem dX7_undo_49 : decode cX7_undo 49 = .ok (.iastore, 1) := by decide +kernel
theorem dX7_undo_50 : decode cX7_undo 50 = .ok (.iinc 1 1, 3) := by decide +kernel
theorem dX7_undo_53 : decode cX7_undo 53 = .ok (.goto (-31), 3) := by decide +kernel
theorem dX7_undo_56 : decode cX7_undo 56 = .ok (.aload_n 0, 1) := by decide +kernel
theorem dX7_undo_57 : decode cX7_undo 57 = .ok (.getfield 46, 3) := by decide +kernel
theorem dX7_undo_60 : decode cX7_undo 60 = .ok (.ireturn, 1) := by decide +kernel
set_option maxRecDepth 20000 in
theorem ggX7_save_X7_in : GoodIn wsX7_save wsX7_in := goodIn_r _ [7] (by decide +kernel) (by decide +kernel)
set_option maxRecDepth 20000 in
theorem gX7_save_X7_in : GoodIn wsX7_save (va_wsS RX7 50 yX7_in wsX7_in) := goodIn_app (goodIn_of _ (by decide +kernel)) ggX7_save_X7_in
theorem dX7_save_0 : decode cX7_save 0 = .ok (.iload_n 1, 1) := by decide +kernel
theorem dX7_save_1 : decode cX7_save 1 = .ok (.iconst 0, 1) := by decide +kernel
theorem dX7_save_2 : decode cX7_save 2 = .ok (.iconst 1, 1) := by decide +kernel
theorem dX7_save_3 : decode cX7_save 3 = .ok (.invokestatic 50, 3) := by decide +kernel
theorem dX7_save_6 : decode cX7_save 6 = .ok (.ifCond .ne 6, 3) := by decide +kernel
theorem dX7_save_9 : decode cX7_save 9 = .ok (.bipush (-2), 2) := by decide +kernel
theorem dX7_save_11 : decode cX7_save 11 = .ok (.ireturn, 1) := by decide +kernel
theorem dX7_save_12 : decode cX7_save 12 = .ok (.aload_n 0, 1) := by decide +kernel
theorem dX7_save_13 : decode cX7_save 13 = .ok (.getfield 19, 3) := by decide +kernel
theorem dX7_save_16 : decode cX7_save 16 = .ok (.iload_n 1, 1) := by decide +kernel
theorem dX7_save_17 : decode cX7_save 17 = .ok (.iconst 1, 1) := by decide +kernel
theorem dX7_save_18 : decode cX7_save 18 = .ok (.bastore, 1) := by decide +kernel
theorem dX7_save_19 : decode cX7_save 19 = .ok (.iconst 0, 1) := by decide +kernel
theorem dX7_save_20 : decode cX7_save 20 = .ok (.istore_n 2, 1) := by decide +kernel
theorem dX7_save_21 : decode cX7_save 21 = .ok (.iload_n 2, 1) := by decide +kernel
theorem dX7_save_22 : decode cX7_save 22 = .ok (.sipush 173, 3) := by decide +kernel
theorem dX7_save_25 : decode cX7_save 25 = .ok (.if_icmp .ge 27, 3) := by decide +kernel
theorem dX7_save_28 : decode cX7_save 28 = .ok (.aload_n 0, 1) := by decide +kernel
theorem dX7_save_29 : decode cX7_save 29 = .ok (.getfield 16, 3) := by decide +kernel
theorem dX7_save_32 : decode cX7_save 32 = .ok (.iload_n 1, 1) := by decide +kernel
theorem dX7_save_33 : decode cX7_save 33 = .ok (.sipush 173, 3) := by decide +kernel
theorem dX7_save_36 : decode cX7_save 36 = .ok (.imul, 1) := by decide +kernel
theorem dX7_save_37 : decode cX7_save 37 = .ok (.iload_n 2, 1) := by decide +kernel
theorem dX7_save_38 : decode cX7_save 38 = .ok (.iadd, 1) := by decide +kernel
theorem dX7_save_39 : decode cX7_save 39 = .ok (.aload_n 0, 1) := by decide +kernel
theorem dX7_save_40 : decode cX7_save 40 = .ok (.getfield 7, 3) := by decide +kernel
theorem dX7_save_43 : decode cX7_save 43 = .ok (.iload_n 2, 1) := by decide +kernel
theorem dX7_save_44 : decode cX7_save 44 = .ok (.iaload, 1) := by decide +kernel
theorem dX7_save_45 : decode cX7_save 45 = .ok (.iastore, 1) := by decide +kernel
theorem dX7_save_46 : decode cX7_save 46 = .ok (.iinc 2 1, 3) := by decide +kernel
theorem dX7_save_49 : decode cX7_save 49 = .ok (.goto (-28), 3) := by decide +kernel
theorem dX7_save_52 : decode cX7_save 52 = .ok (.aload_n 0, 1) := by decide +kernel
theorem dX7_save_53 : decode cX7_save 53 = .ok (.getfield 7, 3) := by decide +kernel
theorem dX7_save_56 : decode cX7_save 56 = .ok (.iconst 3, 1) := by decide +kernel
theorem dX7_save_57 : decode cX7_save 57 = .ok (.iaload, 1) := by decide +kernel
theorem dX7_save_58 : decode cX7_save 58 = .ok (.ireturn, 1) := by decide +kernel
set_option maxRecDepth 20000 in
theorem ggX7_restore_X7_in : GoodIn wsX7_restore wsX7_in := goodIn_r _ [7] (by decide +kernel) (by decide +kernel)
set_option maxRecDepth 20000 in
theorem gX7_restore_X7_in : GoodIn wsX7_restore (va_wsS RX7 50 yX7_in wsX7_in) := goodIn_app (goodIn_of _ (by decide +kernel)) ggX7_restore_X7_in
set_option maxRecDepth 20000 in
theorem ggX7_restore_X7_record : GoodIn wsX7_restore wsX7_record := goodIn_r _ [11, 12, 13, 2, 14, 15, 16, 17, 18, 19, 20, 21, 22, 23, 24, 25, 26, 27, 28] (by decide +kernel) (by decide +kernel)
set_option maxRecDepth 20000 in
theorem gX7_restore_X7_record : GoodIn wsX7_restore (wsV RX7 54 RX7 yX7_record wsX7_record) := goodIn_app (goodIn_of _ (by decide +kernel)) ggX7_restore_X7_record
theorem dX7_restore_0 : decode cX7_restore 0 = .ok (.iload_n 1, 1) := by decide +kernel
theorem dX7_restore_1 : decode cX7_restore 1 = .ok (.iconst 0, 1) := by decide +kernel
theorem dX7_restore_2 : decode cX7_restore 2 = .ok (.iconst 1, 1) := by decide +kernel
theorem dX7_restore_3 : decode cX7_restore 3 = .ok (.invokestatic 50, 3) := by decide +kernel
theorem dX7_restore_6 : decode cX7_restore 6 = .ok (.ifCond .ne 6, 3) := by decide +kernel
theorem dX7_restore_9 : decode cX7_restore 9 = .ok (.bipush (-2), 2) := by decide +kernel
theorem dX7_restore_11 : decode cX7_restore 11 = .ok (.ireturn, 1) := by decide +kernel
theorem dX7_restore_12 : decode cX7_restore 12 = .ok (.aload_n 0, 1) := by decide +kernel
theorem dX7_restore_13 : decode cX7_restore 13 = .ok (.getfield 19, 3) := by decide +kernel
theorem dX7_restore_16 : decode cX7_restore 16 = .ok (.iload_n 1, 1) := by decide +kernel
theorem dX7_restore_17 : decode cX7_restore 17 = .ok (.baload, 1) := by decide +kernel
theorem dX7_restore_18 : decode cX7_restore 18 = .ok (.ifCond .ne 6, 3) := by decide +kernel
theorem dX7_restore_21 : decode cX7_restore 21 = .ok (.bipush (-5), 2) := by decide +kernel
theorem dX7_restore_23 : decode cX7_restore 23 = .ok (.ireturn, 1) := by decide +kernel
theorem dX7_restore_24 : decode cX7_restore 24 = .ok (.aload_n 0, 1) := by decide +kernel
theorem dX7_restore_25 : decode cX7_restore 25 = .ok (.invokevirtual 54, 3) := by decide +kernel
theorem dX7_restore_28 : decode cX7_restore 28 = .ok (.iconst 0, 1) := by decide +kernel
theorem dX7_restore_29 : decode cX7_restore 29 = .ok (.istore_n 2, 1) := by decide +kernel
theorem dX7_restore_30 : decode cX7_restore 30 = .ok (.iload_n 2, 1) := by decide +kernel
theorem dX7_restore_31 : decode cX7_restore 31 = .ok (.sipush 173, 3) := by decide +kernel
theorem dX7_restore_34 : decode cX7_restore 34 = .ok (.if_icmp .ge 27, 3) := by decide +kernel
theorem dX7_restore_37 : decode cX7_restore 37 = .ok (.aload_n 0, 1) := by decide +kernel
theorem dX7_restore_38 : decode cX7_restore 38 = .ok (.getfield 7, 3) := by decide +kernel
theorem dX7_restore_41 : decode cX7_restore 41 = .ok (.iload_n 2, 1) := by decide +kernel
theorem dX7_restore_42 : decode cX7_restore 42 = .ok (.aload_n 0, 1) := by decide +kernel
theorem dX7_restore_43 : decode cX7_restore 43 = .ok (.getfield 16, 3) := by decide +kernel
theorem dX7_restore_46 : decode cX7_restore 46 = .ok (.iload_n 1, 1) := by decide +kernel
theorem dX7_restore_47 : decode cX7_restore 47 = .ok (.sipush 173, 3) := by decide +kernel
theorem dX7_restore_50 : decode cX7_restore 50 = .ok (.imul, 1) := by decide +kernel
theorem dX7_restore_51 : decode cX7_restore 51 = .ok (.iload_n 2, 1) := by decide +kernel
theorem dX7_restore_52 : decode cX7_restore 52 = .ok (.iadd, 1) := by decide +kernel
theorem dX7_restore_53 : decode cX7_restore 53 = .ok (.iaload, 1) := by decide +kernel
theorem dX7_restore_54 : decode cX7_restore 54 = .ok (.iastore, 1) := by decide +kernel
theorem dX7_restore_55 : decode cX7_restore 55 = .ok (.iinc 2 1, 3) := by decide +kernel
theorem dX7_restore_58 : decode cX7_restore 58 = .ok (.goto (-28), 3) := by decide +kernel
theorem dX7_restore_61 : decode cX7_restore 61 = .ok (.aload_n 0, 1) := by decide +kernel
theorem dX7_restore_62 : decode cX7_restore 62 = .ok (.getfield 7, 3) := by decide +kernel
theorem dX7_restore_65 : decode cX7_restore 65 = .ok (.iconst 3, 1) := by decide +kernel
theorem dX7_restore_66 : decode cX7_restore 66 = .ok (.iaload, 1) := by decide +kernel
theorem dX7_restore_67 : decode cX7_restore 67 = .ok (.ireturn, 1) := by decide +kernel
set_option maxRecDepth 20000 in
theorem ggX7_lapsed_X7_isClaim : GoodIn wsX7_lapsed wsX7_isClaim := goodIn_r _ [6, 7, 8, 9, 5, 10, 1, 11, 12, 13, 14, 15, 16, 17, 18, 19, 20, 21, 22, 23, 24, 25] (by decide +kernel) (by decide +kernel)
set_option maxRecDepth 20000 in
theorem gX7_lapsed_X7_isClaim : GoodIn wsX7_lapsed (wsV RX7 57 RX7 yX7_isClaim wsX7_isClaim) := goodIn_app (goodIn_of _ (by decide +kernel)) ggX7_lapsed_X7_isClaim
set_option maxRecDepth 20000 in
theorem ggX7_lapsed_X7_its : GoodIn wsX7_lapsed wsX7_its := goodIn_r _ [10, 1, 11, 12, 13, 14, 15, 16, 17, 18, 19, 20, 21, 22, 23, 24, 25] (by decide +kernel) (by decide +kernel)
set_option maxRecDepth 20000 in
theorem gX7_lapsed_X7_its : GoodIn wsX7_lapsed (wsV RX7 42 RX7 yX7_its wsX7_its) := goodIn_app (goodIn_of _ (by decide +kernel)) ggX7_lapsed_X7_its
theorem dX7_lapsed_0 : decode cX7_lapsed 0 = .ok (.aload_n 0, 1) := by decide +kernel
theorem dX7_lapsed_1 : decode cX7_lapsed 1 = .ok (.iload_n 1, 1) := by decide +kernel
theorem dX7_lapsed_2 : decode cX7_lapsed 2 = .ok (.invokevirtual 57, 3) := by decide +kernel
theorem dX7_lapsed_5 : decode cX7_lapsed 5 = .ok (.ifCond .ne 29, 3) := by decide +kernel
theorem dX7_lapsed_8 : decode cX7_lapsed 8 = .ok (.aload_n 0, 1) := by decide +kernel
theorem dX7_lapsed_9 : decode cX7_lapsed 9 = .ok (.getfield 7, 3) := by decide +kernel
theorem dX7_lapsed_12 : decode cX7_lapsed 12 = .ok (.iconst 2, 1) := by decide +kernel
theorem dX7_lapsed_13 : decode cX7_lapsed 13 = .ok (.iaload, 1) := by decide +kernel
theorem dX7_lapsed_14 : decode cX7_lapsed 14 = .ok (.aload_n 0, 1) := by decide +kernel
theorem dX7_lapsed_15 : decode cX7_lapsed 15 = .ok (.iload_n 1, 1) := by decide +kernel
theorem dX7_lapsed_16 : decode cX7_lapsed 16 = .ok (.iconst 3, 1) := by decide +kernel
theorem dX7_lapsed_17 : decode cX7_lapsed 17 = .ok (.invokevirtual 42, 3) := by decide +kernel
theorem dX7_lapsed_20 : decode cX7_lapsed 20 = .ok (.isub, 1) := by decide +kernel
theorem dX7_lapsed_21 : decode cX7_lapsed 21 = .ok (.aload_n 0, 1) := by decide +kernel
theorem dX7_lapsed_22 : decode cX7_lapsed 22 = .ok (.getfield 7, 3) := by decide +kernel
theorem dX7_lapsed_25 : decode cX7_lapsed 25 = .ok (.iconst 0, 1) := by decide +kernel
theorem dX7_lapsed_26 : decode cX7_lapsed 26 = .ok (.iaload, 1) := by decide +kernel
theorem dX7_lapsed_27 : decode cX7_lapsed 27 = .ok (.if_icmp .le 7, 3) := by decide +kernel
theorem dX7_lapsed_30 : decode cX7_lapsed 30 = .ok (.iconst 1, 1) := by decide +kernel
theorem dX7_lapsed_31 : decode cX7_lapsed 31 = .ok (.goto 4, 3) := by decide +kernel
theorem dX7_lapsed_34 : decode cX7_lapsed 34 = .ok (.iconst 0, 1) := by decide +kernel
theorem dX7_lapsed_35 : decode cX7_lapsed 35 = .ok (.ireturn, 1) := by decide +kernel
set_option maxRecDepth 20000 in
theorem ggX7_hasNoCase_X7_its : GoodIn wsX7_hasNoCase wsX7_its := goodIn_r _ [6, 1, 7, 8, 9, 10, 11, 12, 13, 14, 15, 16, 17, 18, 19, 20, 21] (by decide +kernel) (by decide +kernel)
set_option maxRecDepth 20000 in
theorem gX7_hasNoCase_X7_its : GoodIn wsX7_hasNoCase (wsV RX7 42 RX7 yX7_its wsX7_its) := goodIn_app (goodIn_of _ (by decide +kernel)) ggX7_hasNoCase_X7_its
theorem dX7_hasNoCase_0 : decode cX7_hasNoCase 0 = .ok (.aload_n 0, 1) := by decide +kernel
theorem dX7_hasNoCase_1 : decode cX7_hasNoCase 1 = .ok (.iload_n 1, 1) := by decide +kernel
theorem dX7_hasNoCase_2 : decode cX7_hasNoCase 2 = .ok (.iconst 5, 1) := by decide +kernel
theorem dX7_hasNoCase_3 : decode cX7_hasNoCase 3 = .ok (.invokevirtual 42, 3) := by decide +kernel
theorem dX7_hasNoCase_6 : decode cX7_hasNoCase 6 = .ok (.ifCond .eq 25, 3) := by decide +kernel
theorem dX7_hasNoCase_9 : decode cX7_hasNoCase 9 = .ok (.aload_n 0, 1) := by decide +kernel
theorem dX7_hasNoCase_10 : decode cX7_hasNoCase 10 = .ok (.iload_n 1, 1) := by decide +kernel
theorem dX7_hasNoCase_11 : decode cX7_hasNoCase 11 = .ok (.iconst 5, 1) := by decide +kernel
theorem dX7_hasNoCase_12 : decode cX7_hasNoCase 12 = .ok (.invokevirtual 42, 3) := by decide +kernel
theorem dX7_hasNoCase_15 : decode cX7_hasNoCase 15 = .ok (.aload_n 0, 1) := by decide +kernel
theorem dX7_hasNoCase_16 : decode cX7_hasNoCase 16 = .ok (.getfield 7, 3) := by decide +kernel
theorem dX7_hasNoCase_19 : decode cX7_hasNoCase 19 = .ok (.iconst 4, 1) := by decide +kernel
theorem dX7_hasNoCase_20 : decode cX7_hasNoCase 20 = .ok (.iaload, 1) := by decide +kernel
theorem dX7_hasNoCase_21 : decode cX7_hasNoCase 21 = .ok (.iconst (-1), 1) := by decide +kernel
theorem dX7_hasNoCase_22 : decode cX7_hasNoCase 22 = .ok (.ixor, 1) := by decide +kernel
theorem dX7_hasNoCase_23 : decode cX7_hasNoCase 23 = .ok (.iand, 1) := by decide +kernel
theorem dX7_hasNoCase_24 : decode cX7_hasNoCase 24 = .ok (.ifCond .ne 7, 3) := by decide +kernel
theorem dX7_hasNoCase_27 : decode cX7_hasNoCase 27 = .ok (.iconst 1, 1) := by decide +kernel
theorem dX7_hasNoCase_28 : decode cX7_hasNoCase 28 = .ok (.goto 4, 3) := by decide +kernel
theorem dX7_hasNoCase_31 : decode cX7_hasNoCase 31 = .ok (.iconst 0, 1) := by decide +kernel
theorem dX7_hasNoCase_32 : decode cX7_hasNoCase 32 = .ok (.ireturn, 1) := by decide +kernel
set_option maxRecDepth 20000 in
theorem ggX7_layOut_X7_its : GoodIn wsX7_layOut wsX7_its := goodIn_r _ [8, 2, 25, 26, 27, 28, 29, 30, 31, 32, 33, 34, 35, 36, 37, 38, 39] (by decide +kernel) (by decide +kernel)
set_option maxRecDepth 20000 in
theorem gX7_layOut_X7_its : GoodIn wsX7_layOut (wsV RX7 42 RX7 yX7_its wsX7_its) := goodIn_app (goodIn_of _ (by decide +kernel)) ggX7_layOut_X7_its
set_option maxRecDepth 20000 in
theorem ggX7_layOut_X7_isWithdrawn : GoodIn wsX7_layOut wsX7_isWithdrawn := goodIn_r _ [12, 4, 5, 6, 7, 8, 2, 25, 26, 27, 28, 29, 30, 31, 32, 33, 34, 35, 36, 37, 38, 39] (by decide +kernel) (by decide +kernel)
set_option maxRecDepth 20000 in
theorem gX7_layOut_X7_isWithdrawn : GoodIn wsX7_layOut (wsV RX7 61 RX7 yX7_isWithdrawn wsX7_isWithdrawn) := goodIn_app (goodIn_of _ (by decide +kernel)) ggX7_layOut_X7_isWithdrawn
set_option maxRecDepth 20000 in
theorem ggX7_layOut_X7_lapsed : GoodIn wsX7_layOut wsX7_lapsed := goodIn_r _ [16, 2, 17, 18, 19, 7, 20, 4, 5, 6, 8, 25, 26, 27, 28, 29, 30, 31, 32, 33, 34, 35, 36, 37, 38, 39] (by decide +kernel) (by decide +kernel)
set_option maxRecDepth 20000 in
theorem gX7_layOut_X7_lapsed : GoodIn wsX7_layOut (wsV RX7 64 RX7 yX7_lapsed wsX7_lapsed) := goodIn_app (goodIn_of _ (by decide +kernel)) ggX7_layOut_X7_lapsed
set_option maxRecDepth 20000 in
theorem ggX7_layOut_X7_hasNoCase : GoodIn wsX7_layOut wsX7_hasNoCase := goodIn_r _ [24, 2, 4, 5, 6, 7, 8, 25, 26, 27, 28, 29, 30, 31, 32, 33, 34, 35, 36, 37, 38, 39] (by decide +kernel) (by decide +kernel)
set_option maxRecDepth 20000 in
theorem gX7_layOut_X7_hasNoCase : GoodIn wsX7_layOut (wsV RX7 67 RX7 yX7_hasNoCase wsX7_hasNoCase) := goodIn_app (goodIn_of _ (by decide +kernel)) ggX7_layOut_X7_hasNoCase
theorem dX7_layOut_0 : decode cX7_layOut 0 = .ok (.aload_n 0, 1) := by decide +kernel
theorem dX7_layOut_1 : decode cX7_layOut 1 = .ok (.getfield 30, 3) := by decide +kernel
theorem dX7_layOut_4 : decode cX7_layOut 4 = .ok (.iconst 0, 1) := by decide +kernel
theorem dX7_layOut_5 : decode cX7_layOut 5 = .ok (.iconst 0, 1) := by decide +kernel
theorem dX7_layOut_6 : decode cX7_layOut 6 = .ok (.iastore, 1) := by decide +kernel
theorem dX7_layOut_7 : decode cX7_layOut 7 = .ok (.aload_n 0, 1) := by decide +kernel
theorem dX7_layOut_8 : decode cX7_layOut 8 = .ok (.getfield 30, 3) := by decide +kernel
theorem dX7_layOut_11 : decode cX7_layOut 11 = .ok (.iconst 1, 1) := by decide +kernel
theorem dX7_layOut_12 : decode cX7_layOut 12 = .ok (.iconst 0, 1) := by decide +kernel
theorem dX7_layOut_13 : decode cX7_layOut 13 = .ok (.iastore, 1) := by decide +kernel
theorem dX7_layOut_14 : decode cX7_layOut 14 = .ok (.iconst 0, 1) := by decide +kernel
theorem dX7_layOut_15 : decode cX7_layOut 15 = .ok (.istore_n 1, 1) := by decide +kernel
theorem dX7_layOut_16 : decode cX7_layOut 16 = .ok (.iload_n 1, 1) := by decide +kernel
theorem dX7_layOut_17 : decode cX7_layOut 17 = .ok (.aload_n 0, 1) := by decide +kernel
theorem dX7_layOut_18 : decode cX7_layOut 18 = .ok (.getfield 7, 3) := by decide +kernel
theorem dX7_layOut_21 : decode cX7_layOut 21 = .ok (.iconst 3, 1) := by decide +kernel
theorem dX7_layOut_22 : decode cX7_layOut 22 = .ok (.iaload, 1) := by decide +kernel
theorem dX7_layOut_23 : decode cX7_layOut 23 = .ok (.if_icmp .ge 126, 3) := by decide +kernel
theorem dX7_layOut_26 : decode cX7_layOut 26 = .ok (.aload_n 0, 1) := by decide +kernel
theorem dX7_layOut_27 : decode cX7_layOut 27 = .ok (.iload_n 1, 1) := by decide +kernel
theorem dX7_layOut_28 : decode cX7_layOut 28 = .ok (.iconst 0, 1) := by decide +kernel
theorem dX7_layOut_29 : decode cX7_layOut 29 = .ok (.invokevirtual 42, 3) := by decide +kernel
theorem dX7_layOut_32 : decode cX7_layOut 32 = .ok (.istore_n 2, 1) := by decide +kernel
theorem dX7_layOut_33 : decode cX7_layOut 33 = .ok (.aload_n 0, 1) := by decide +kernel
theorem dX7_layOut_34 : decode cX7_layOut 34 = .ok (.getfield 30, 3) := by decide +kernel
theorem dX7_layOut_37 : decode cX7_layOut 37 = .ok (.iload_n 2, 1) := by decide +kernel
theorem dX7_layOut_38 : decode cX7_layOut 38 = .ok (.iaload, 1) := by decide +kernel
theorem dX7_layOut_39 : decode cX7_layOut 39 = .ok (.aload_n 0, 1) := by decide +kernel
theorem dX7_layOut_40 : decode cX7_layOut 40 = .ok (.iload_n 1, 1) := by decide +kernel
theorem dX7_layOut_41 : decode cX7_layOut 41 = .ok (.iconst 1, 1) := by decide +kernel
theorem dX7_layOut_42 : decode cX7_layOut 42 = .ok (.invokevirtual 42, 3) := by decide +kernel
theorem dX7_layOut_45 : decode cX7_layOut 45 = .ok (.iadd, 1) := by decide +kernel
theorem dX7_layOut_46 : decode cX7_layOut 46 = .ok (.aload_n 0, 1) := by decide +kernel
theorem dX7_layOut_47 : decode cX7_layOut 47 = .ok (.getfield 7, 3) := by decide +kernel
theorem dX7_layOut_50 : decode cX7_layOut 50 = .ok (.iconst 1, 1) := by decide +kernel
theorem dX7_layOut_51 : decode cX7_layOut 51 = .ok (.iaload, 1) := by decide +kernel
theorem dX7_layOut_52 : decode cX7_layOut 52 = .ok (.if_icmp .le 7, 3) := by decide +kernel
theorem dX7_layOut_55 : decode cX7_layOut 55 = .ok (.iconst 1, 1) := by decide +kernel
theorem dX7_layOut_56 : decode cX7_layOut 56 = .ok (.goto 4, 3) := by decide +kernel
theorem dX7_layOut_59 : decode cX7_layOut 59 = .ok (.iconst 0, 1) := by decide +kernel
theorem dX7_layOut_60 : decode cX7_layOut 60 = .ok (.istore_n 3, 1) := by decide +kernel
theorem dX7_layOut_61 : decode cX7_layOut 61 = .ok (.aload_n 0, 1) := by decide +kernel
theorem dX7_layOut_62 : decode cX7_layOut 62 = .ok (.getfield 27, 3) := by decide +kernel
theorem dX7_layOut_65 : decode cX7_layOut 65 = .ok (.iload_n 1, 1) := by decide +kernel
theorem dX7_layOut_66 : decode cX7_layOut 66 = .ok (.aload_n 0, 1) := by decide +kernel
theorem dX7_layOut_67 : decode cX7_layOut 67 = .ok (.iload_n 1, 1) := by decide +kernel
theorem dX7_layOut_68 : decode cX7_layOut 68 = .ok (.invokevirtual 61, 3) := by decide +kernel
theorem dX7_layOut_71 : decode cX7_layOut 71 = .ok (.ifCond .eq 7, 3) := by decide +kernel
theorem dX7_layOut_74 : decode cX7_layOut 74 = .ok (.iconst 1, 1) := by decide +kernel
theorem dX7_layOut_75 : decode cX7_layOut 75 = .ok (.goto 36, 3) := by decide +kernel
theorem dX7_layOut_78 : decode cX7_layOut 78 = .ok (.iload_n 3, 1) := by decide +kernel
theorem dX7_layOut_79 : decode cX7_layOut 79 = .ok (.ifCond .eq 7, 3) := by decide +kernel
theorem dX7_layOut_82 : decode cX7_layOut 82 = .ok (.iconst 2, 1) := by decide +kernel
theorem dX7_layOut_83 : decode cX7_layOut 83 = .ok (.goto 28, 3) := by decide +kernel
theorem dX7_layOut_86 : decode cX7_layOut 86 = .ok (.aload_n 0, 1) := by decide +kernel
theorem dX7_layOut_87 : decode cX7_layOut 87 = .ok (.iload_n 1, 1) := by decide +kernel
theorem dX7_layOut_88 : decode cX7_layOut 88 = .ok (.invokevirtual 64, 3) := by decide +kernel
theorem dX7_layOut_91 : decode cX7_layOut 91 = .ok (.ifCond .eq 7, 3) := by decide +kernel
theorem dX7_layOut_94 : decode cX7_layOut 94 = .ok (.iconst 3, 1) := by decide +kernel
theorem dX7_layOut_95 : decode cX7_layOut 95 = .ok (.goto 16, 3) := by decide +kernel
theorem dX7_layOut_98 : decode cX7_layOut 98 = .ok (.aload_n 0, 1) := by decide +kernel
theorem dX7_layOut_99 : decode cX7_layOut 99 = .ok (.iload_n 1, 1) := by decide +kernel
theorem dX7_layOut_100 : decode cX7_layOut 100 = .ok (.invokevirtual 67, 3) := by decide +kernel
theorem dX7_layOut_103 : decode cX7_layOut 103 = .ok (.ifCond .eq 7, 3) := by decide +kernel
theorem dX7_layOut_106 : decode cX7_layOut 106 = .ok (.iconst 4, 1) := by decide +kernel
theorem dX7_layOut_107 : decode cX7_layOut 107 = .ok (.goto 4, 3) := by decide +kernel
theorem dX7_layOut_110 : decode cX7_layOut 110 = .ok (.iconst 0, 1) := by decide +kernel
theorem dX7_layOut_111 : decode cX7_layOut 111 = .ok (.iastore, 1) := by decide +kernel
theorem dX7_layOut_112 : decode cX7_layOut 112 = .ok (.aload_n 0, 1) := by decide +kernel
theorem dX7_layOut_113 : decode cX7_layOut 113 = .ok (.getfield 30, 3) := by decide +kernel
theorem dX7_layOut_116 : decode cX7_layOut 116 = .ok (.iload_n 2, 1) := by decide +kernel
theorem dX7_layOut_117 : decode cX7_layOut 117 = .ok (.dup2, 1) := by decide +kernel
theorem dX7_layOut_118 : decode cX7_layOut 118 = .ok (.iaload, 1) := by decide +kernel
theorem dX7_layOut_119 : decode cX7_layOut 119 = .ok (.aload_n 0, 1) := by decide +kernel
theorem dX7_layOut_120 : decode cX7_layOut 120 = .ok (.iload_n 1, 1) := by decide +kernel
theorem dX7_layOut_121 : decode cX7_layOut 121 = .ok (.invokevirtual 61, 3) := by decide +kernel
theorem dX7_layOut_124 : decode cX7_layOut 124 = .ok (.ifCond .ne 7, 3) := by decide +kernel
theorem dX7_layOut_127 : decode cX7_layOut 127 = .ok (.iload_n 3, 1) := by decide +kernel
theorem dX7_layOut_128 : decode cX7_layOut 128 = .ok (.ifCond .eq 7, 3) := by decide +kernel
theorem dX7_layOut_131 : decode cX7_layOut 131 = .ok (.iconst 0, 1) := by decide +kernel
theorem dX7_layOut_132 : decode cX7_layOut 132 = .ok (.goto 9, 3) := by decide +kernel
theorem dX7_layOut_135 : decode cX7_layOut 135 = .ok (.aload_n 0, 1) := by decide +kernel
theorem dX7_layOut_136 : decode cX7_layOut 136 = .ok (.iload_n 1, 1) := by decide +kernel
theorem dX7_layOut_137 : decode cX7_layOut 137 = .ok (.iconst 1, 1) := by decide +kernel
theorem dX7_layOut_138 : decode cX7_layOut 138 = .ok (.invokevirtual 42, 3) := by decide +kernel
theorem dX7_layOut_141 : decode cX7_layOut 141 = .ok (.iadd, 1) := by decide +kernel
theorem dX7_layOut_142 : decode cX7_layOut 142 = .ok (.iastore, 1) := by decide +kernel
theorem dX7_layOut_143 : decode cX7_layOut 143 = .ok (.iinc 1 1, 3) := by decide +kernel
theorem dX7_layOut_146 : decode cX7_layOut 146 = .ok (.goto (-130), 3) := by decide +kernel
theorem dX7_layOut_149 : decode cX7_layOut 149 = .ok (.return_, 1) := by decide +kernel
set_option maxRecDepth 20000 in
theorem ggX7_layAnswered_X7_its : GoodIn wsX7_layAnswered wsX7_its := goodIn_r _ [7, 1, 8, 9, 10, 11, 12, 13, 14, 15, 16, 17, 18, 19, 20, 21, 22] (by decide +kernel) (by decide +kernel)
set_option maxRecDepth 20000 in
theorem gX7_layAnswered_X7_its : GoodIn wsX7_layAnswered (wsV RX7 42 RX7 yX7_its wsX7_its) := goodIn_app (goodIn_of _ (by decide +kernel)) ggX7_layAnswered_X7_its
theorem dX7_layAnswered_0 : decode cX7_layAnswered 0 = .ok (.aload_n 0, 1) := by decide +kernel
theorem dX7_layAnswered_1 : decode cX7_layAnswered 1 = .ok (.getfield 7, 3) := by decide +kernel
theorem dX7_layAnswered_4 : decode cX7_layAnswered 4 = .ok (.iconst 3, 1) := by decide +kernel
theorem dX7_layAnswered_5 : decode cX7_layAnswered 5 = .ok (.iaload, 1) := by decide +kernel
theorem dX7_layAnswered_6 : decode cX7_layAnswered 6 = .ok (.iconst 1, 1) := by decide +kernel
theorem dX7_layAnswered_7 : decode cX7_layAnswered 7 = .ok (.isub, 1) := by decide +kernel
theorem dX7_layAnswered_8 : decode cX7_layAnswered 8 = .ok (.istore_n 2, 1) := by decide +kernel
theorem dX7_layAnswered_9 : decode cX7_layAnswered 9 = .ok (.iload_n 2, 1) := by decide +kernel
theorem dX7_layAnswered_10 : decode cX7_layAnswered 10 = .ok (.ifCond .lt 102, 3) := by decide +kernel
theorem dX7_layAnswered_13 : decode cX7_layAnswered 13 = .ok (.iload_n 2, 1) := by decide +kernel
theorem dX7_layAnswered_14 : decode cX7_layAnswered 14 = .ok (.iload_n 1, 1) := by decide +kernel
theorem dX7_layAnswered_15 : decode cX7_layAnswered 15 = .ok (.if_icmp .ne 7, 3) := by decide +kernel
theorem dX7_layAnswered_18 : decode cX7_layAnswered 18 = .ok (.iconst 1, 1) := by decide +kernel
theorem dX7_layAnswered_19 : decode cX7_layAnswered 19 = .ok (.goto 4, 3) := by decide +kernel
theorem dX7_layAnswered_22 : decode cX7_layAnswered 22 = .ok (.iconst 0, 1) := by decide +kernel
theorem dX7_layAnswered_23 : decode cX7_layAnswered 23 = .ok (.istore_n 3, 1) := by decide +kernel
theorem dX7_layAnswered_24 : decode cX7_layAnswered 24 = .ok (.iload_n 2, 1) := by decide +kernel
theorem dX7_layAnswered_25 : decode cX7_layAnswered 25 = .ok (.iconst 1, 1) := by decide +kernel
theorem dX7_layAnswered_26 : decode cX7_layAnswered 26 = .ok (.iadd, 1) := by decide +kernel
theorem dX7_layAnswered_27 : decode cX7_layAnswered 27 = .ok (.istore 4, 2) := by decide +kernel
theorem dX7_layAnswered_29 : decode cX7_layAnswered 29 = .ok (.iload 4, 2) := by decide +kernel
theorem dX7_layAnswered_31 : decode cX7_layAnswered 31 = .ok (.aload_n 0, 1) := by decide +kernel
theorem dX7_layAnswered_32 : decode cX7_layAnswered 32 = .ok (.getfield 7, 3) := by decide +kernel
theorem dX7_layAnswered_35 : decode cX7_layAnswered 35 = .ok (.iconst 3, 1) := by decide +kernel
theorem dX7_layAnswered_36 : decode cX7_layAnswered 36 = .ok (.iaload, 1) := by decide +kernel
theorem dX7_layAnswered_37 : decode cX7_layAnswered 37 = .ok (.if_icmp .ge 40, 3) := by decide +kernel
theorem dX7_layAnswered_40 : decode cX7_layAnswered 40 = .ok (.iload_n 3, 1) := by decide +kernel
theorem dX7_layAnswered_41 : decode cX7_layAnswered 41 = .ok (.ifCond .ne 24, 3) := by decide +kernel
theorem dX7_layAnswered_44 : decode cX7_layAnswered 44 = .ok (.aload_n 0, 1) := by decide +kernel
theorem dX7_layAnswered_45 : decode cX7_layAnswered 45 = .ok (.iload 4, 2) := by decide +kernel
theorem dX7_layAnswered_47 : decode cX7_layAnswered 47 = .ok (.iconst 4, 1) := by decide +kernel
theorem dX7_layAnswered_48 : decode cX7_layAnswered 48 = .ok (.invokevirtual 42, 3) := by decide +kernel
theorem dX7_layAnswered_51 : decode cX7_layAnswered 51 = .ok (.iload_n 2, 1) := by decide +kernel
theorem dX7_layAnswered_52 : decode cX7_layAnswered 52 = .ok (.if_icmp .ne 17, 3) := by decide +kernel
theorem dX7_layAnswered_55 : decode cX7_layAnswered 55 = .ok (.aload_n 0, 1) := by decide +kernel
theorem dX7_layAnswered_56 : decode cX7_layAnswered 56 = .ok (.getfield 27, 3) := by decide +kernel
theorem dX7_layAnswered_59 : decode cX7_layAnswered 59 = .ok (.iload 4, 2) := by decide +kernel
theorem dX7_layAnswered_61 : decode cX7_layAnswered 61 = .ok (.iaload, 1) := by decide +kernel
theorem dX7_layAnswered_62 : decode cX7_layAnswered 62 = .ok (.ifCond .ne 7, 3) := by decide +kernel
theorem dX7_layAnswered_65 : decode cX7_layAnswered 65 = .ok (.iconst 1, 1) := by decide +kernel
theorem dX7_layAnswered_66 : decode cX7_layAnswered 66 = .ok (.goto 4, 3) := by decide +kernel
theorem dX7_layAnswered_69 : decode cX7_layAnswered 69 = .ok (.iconst 0, 1) := by decide +kernel
theorem dX7_layAnswered_70 : decode cX7_layAnswered 70 = .ok (.istore_n 3, 1) := by decide +kernel
theorem dX7_layAnswered_71 : decode cX7_layAnswered 71 = .ok (.iinc 4 1, 3) := by decide +kernel
theorem dX7_layAnswered_74 : decode cX7_layAnswered 74 = .ok (.goto (-45), 3) := by decide +kernel
theorem dX7_layAnswered_77 : decode cX7_layAnswered 77 = .ok (.aload_n 0, 1) := by decide +kernel
theorem dX7_layAnswered_78 : decode cX7_layAnswered 78 = .ok (.getfield 27, 3) := by decide +kernel
theorem dX7_layAnswered_81 : decode cX7_layAnswered 81 = .ok (.iload_n 2, 1) := by decide +kernel
theorem dX7_layAnswered_82 : decode cX7_layAnswered 82 = .ok (.aload_n 0, 1) := by decide +kernel
theorem dX7_layAnswered_83 : decode cX7_layAnswered 83 = .ok (.getfield 27, 3) := by decide +kernel
theorem dX7_layAnswered_86 : decode cX7_layAnswered 86 = .ok (.iload_n 2, 1) := by decide +kernel
theorem dX7_layAnswered_87 : decode cX7_layAnswered 87 = .ok (.iaload, 1) := by decide +kernel
theorem dX7_layAnswered_88 : decode cX7_layAnswered 88 = .ok (.ifCond .ne 11, 3) := by decide +kernel
theorem dX7_layAnswered_91 : decode cX7_layAnswered 91 = .ok (.iload_n 3, 1) := by decide +kernel
theorem dX7_layAnswered_92 : decode cX7_layAnswered 92 = .ok (.ifCond .eq 7, 3) := by decide +kernel
theorem dX7_layAnswered_95 : decode cX7_layAnswered 95 = .ok (.iconst 5, 1) := by decide +kernel
theorem dX7_layAnswered_96 : decode cX7_layAnswered 96 = .ok (.goto 9, 3) := by decide +kernel
theorem dX7_layAnswered_99 : decode cX7_layAnswered 99 = .ok (.aload_n 0, 1) := by decide +kernel
theorem dX7_layAnswered_100 : decode cX7_layAnswered 100 = .ok (.getfield 27, 3) := by decide +kernel
theorem dX7_layAnswered_103 : decode cX7_layAnswered 103 = .ok (.iload_n 2, 1) := by decide +kernel
theorem dX7_layAnswered_104 : decode cX7_layAnswered 104 = .ok (.iaload, 1) := by decide +kernel
theorem dX7_layAnswered_105 : decode cX7_layAnswered 105 = .ok (.iastore, 1) := by decide +kernel
theorem dX7_layAnswered_106 : decode cX7_layAnswered 106 = .ok (.iinc 2 (-1), 3) := by decide +kernel
theorem dX7_layAnswered_109 : decode cX7_layAnswered 109 = .ok (.goto (-100), 3) := by decide +kernel
theorem dX7_layAnswered_112 : decode cX7_layAnswered 112 = .ok (.return_, 1) := by decide +kernel
set_option maxRecDepth 20000 in
theorem ggX7_look_X7_layOut : GoodIn wsX7_look wsX7_layOut := goodIn_r _ [5, 6, 7, 8, 9, 10, 11, 4, 12, 13, 14, 15, 16, 17, 18, 19, 20, 21, 22, 23, 24, 25, 26, 27, 28, 33, 34, 35, 36, 37, 38, 39, 40, 41, 42, 43, 44, 45, 46, 47] (by decide +kernel) (by decide +kernel)
set_option maxRecDepth 20000 in
theorem gX7_look_X7_layOut : GoodIn wsX7_look (wsV RX7 70 RX7 yX7_layOut wsX7_layOut) := goodIn_app (goodIn_of _ (by decide +kernel)) ggX7_look_X7_layOut
set_option maxRecDepth 20000 in
theorem ggX7_look_X7_layAnswered : GoodIn wsX7_look wsX7_layAnswered := goodIn_r _ [32, 7, 8, 9, 10, 11, 4, 12, 33, 34, 35, 36, 37, 38, 39, 40, 41, 42, 43, 44, 45, 46, 47] (by decide +kernel) (by decide +kernel)
set_option maxRecDepth 20000 in
theorem gX7_look_X7_layAnswered : GoodIn wsX7_look (wsV RX7 73 RX7 yX7_layAnswered wsX7_layAnswered) := goodIn_app (goodIn_of _ (by decide +kernel)) ggX7_look_X7_layAnswered
theorem dX7_look_0 : decode cX7_look 0 = .ok (.aload_n 0, 1) := by decide +kernel
theorem dX7_look_1 : decode cX7_look 1 = .ok (.invokevirtual 70, 3) := by decide +kernel
theorem dX7_look_4 : decode cX7_look 4 = .ok (.aload_n 0, 1) := by decide +kernel
theorem dX7_look_5 : decode cX7_look 5 = .ok (.bipush (-6), 2) := by decide +kernel
theorem dX7_look_7 : decode cX7_look 7 = .ok (.invokevirtual 73, 3) := by decide +kernel
theorem dX7_look_10 : decode cX7_look 10 = .ok (.return_, 1) := by decide +kernel
theorem dX7_standing_0 : decode cX7_standing 0 = .ok (.iconst 0, 1) := by decide +kernel
theorem dX7_standing_1 : decode cX7_standing 1 = .ok (.istore_n 1, 1) := by decide +kernel
theorem dX7_standing_2 : decode cX7_standing 2 = .ok (.iconst 0, 1) := by decide +kernel
theorem dX7_standing_3 : decode cX7_standing 3 = .ok (.istore_n 2, 1) := by decide +kernel
theorem dX7_standing_4 : decode cX7_standing 4 = .ok (.iload_n 2, 1) := by decide +kernel
theorem dX7_standing_5 : decode cX7_standing 5 = .ok (.aload_n 0, 1) := by decide +kernel
theorem dX7_standing_6 : decode cX7_standing 6 = .ok (.getfield 7, 3) := by decide +kernel
theorem dX7_standing_9 : decode cX7_standing 9 = .ok (.iconst 3, 1) := by decide +kernel
theorem dX7_standing_10 : decode cX7_standing 10 = .ok (.iaload, 1) := by decide +kernel
theorem dX7_standing_11 : decode cX7_standing 11 = .ok (.if_icmp .ge 28, 3) := by decide +kernel
theorem dX7_standing_14 : decode cX7_standing 14 = .ok (.iload_n 1, 1) := by decide +kernel
theorem dX7_standing_15 : decode cX7_standing 15 = .ok (.aload_n 0, 1) := by decide +kernel
theorem dX7_standing_16 : decode cX7_standing 16 = .ok (.getfield 27, 3) := by decide +kernel
theorem dX7_standing_19 : decode cX7_standing 19 = .ok (.iload_n 2, 1) := by decide +kernel
theorem dX7_standing_20 : decode cX7_standing 20 = .ok (.iaload, 1) := by decide +kernel
theorem dX7_standing_21 : decode cX7_standing 21 = .ok (.ifCond .ne 9, 3) := by decide +kernel
theorem dX7_standing_24 : decode cX7_standing 24 = .ok (.iconst 1, 1) := by decide +kernel
theorem dX7_standing_25 : decode cX7_standing 25 = .ok (.iload_n 2, 1) := by decide +kernel
theorem dX7_standing_26 : decode cX7_standing 26 = .ok (.ishl, 1) := by decide +kernel
theorem dX7_standing_27 : decode cX7_standing 27 = .ok (.goto 4, 3) := by decide +kernel
theorem dX7_standing_30 : decode cX7_standing 30 = .ok (.iconst 0, 1) := by decide +kernel
theorem dX7_standing_31 : decode cX7_standing 31 = .ok (.ior, 1) := by decide +kernel
theorem dX7_standing_32 : decode cX7_standing 32 = .ok (.istore_n 1, 1) := by decide +kernel
theorem dX7_standing_33 : decode cX7_standing 33 = .ok (.iinc 2 1, 3) := by decide +kernel
theorem dX7_standing_36 : decode cX7_standing 36 = .ok (.goto (-32), 3) := by decide +kernel
theorem dX7_standing_39 : decode cX7_standing 39 = .ok (.iload_n 1, 1) := by decide +kernel
theorem dX7_standing_40 : decode cX7_standing 40 = .ok (.ireturn, 1) := by decide +kernel
set_option maxRecDepth 20000 in
theorem ggX7_claims_X7_isClaim : GoodIn wsX7_claims wsX7_isClaim := goodIn_r _ [6, 7, 8, 9, 5, 10, 1, 11, 12, 13, 14, 15, 16, 17, 18, 19, 20, 21, 22, 23, 24, 25] (by decide +kernel) (by decide +kernel)
set_option maxRecDepth 20000 in
theorem gX7_claims_X7_isClaim : GoodIn wsX7_claims (wsV RX7 57 RX7 yX7_isClaim wsX7_isClaim) := goodIn_app (goodIn_of _ (by decide +kernel)) ggX7_claims_X7_isClaim
theorem dX7_claims_0 : decode cX7_claims 0 = .ok (.iconst 0, 1) := by decide +kernel
theorem dX7_claims_1 : decode cX7_claims 1 = .ok (.istore_n 1, 1) := by decide +kernel
theorem dX7_claims_2 : decode cX7_claims 2 = .ok (.iconst 0, 1) := by decide +kernel
theorem dX7_claims_3 : decode cX7_claims 3 = .ok (.istore_n 2, 1) := by decide +kernel
theorem dX7_claims_4 : decode cX7_claims 4 = .ok (.iload_n 2, 1) := by decide +kernel
theorem dX7_claims_5 : decode cX7_claims 5 = .ok (.aload_n 0, 1) := by decide +kernel
theorem dX7_claims_6 : decode cX7_claims 6 = .ok (.getfield 7, 3) := by decide +kernel
theorem dX7_claims_9 : decode cX7_claims 9 = .ok (.iconst 3, 1) := by decide +kernel
theorem dX7_claims_10 : decode cX7_claims 10 = .ok (.iaload, 1) := by decide +kernel
theorem dX7_claims_11 : decode cX7_claims 11 = .ok (.if_icmp .ge 27, 3) := by decide +kernel
theorem dX7_claims_14 : decode cX7_claims 14 = .ok (.iload_n 1, 1) := by decide +kernel
theorem dX7_claims_15 : decode cX7_claims 15 = .ok (.aload_n 0, 1) := by decide +kernel
theorem dX7_claims_16 : decode cX7_claims 16 = .ok (.iload_n 2, 1) := by decide +kernel
theorem dX7_claims_17 : decode cX7_claims 17 = .ok (.invokevirtual 57, 3) := by decide +kernel
theorem dX7_claims_20 : decode cX7_claims 20 = .ok (.ifCond .eq 9, 3) := by decide +kernel
theorem dX7_claims_23 : decode cX7_claims 23 = .ok (.iconst 1, 1) := by decide +kernel
theorem dX7_claims_24 : decode cX7_claims 24 = .ok (.iload_n 2, 1) := by decide +kernel
theorem dX7_claims_25 : decode cX7_claims 25 = .ok (.ishl, 1) := by decide +kernel
theorem dX7_claims_26 : decode cX7_claims 26 = .ok (.goto 4, 3) := by decide +kernel
theorem dX7_claims_29 : decode cX7_claims 29 = .ok (.iconst 0, 1) := by decide +kernel
theorem dX7_claims_30 : decode cX7_claims 30 = .ok (.ior, 1) := by decide +kernel
theorem dX7_claims_31 : decode cX7_claims 31 = .ok (.istore_n 1, 1) := by decide +kernel
theorem dX7_claims_32 : decode cX7_claims 32 = .ok (.iinc 2 1, 3) := by decide +kernel
theorem dX7_claims_35 : decode cX7_claims 35 = .ok (.goto (-31), 3) := by decide +kernel
theorem dX7_claims_38 : decode cX7_claims 38 = .ok (.iload_n 1, 1) := by decide +kernel
theorem dX7_claims_39 : decode cX7_claims 39 = .ok (.ireturn, 1) := by decide +kernel
set_option maxRecDepth 20000 in
theorem ggX7_answersTo_X7_its : GoodIn wsX7_answersTo wsX7_its := goodIn_r _ [6, 1, 7, 8, 9, 10, 11, 12, 13, 14, 15, 16, 17, 18, 19, 20, 21] (by decide +kernel) (by decide +kernel)
set_option maxRecDepth 20000 in
theorem gX7_answersTo_X7_its : GoodIn wsX7_answersTo (wsV RX7 42 RX7 yX7_its wsX7_its) := goodIn_app (goodIn_of _ (by decide +kernel)) ggX7_answersTo_X7_its
theorem dX7_answersTo_0 : decode cX7_answersTo 0 = .ok (.iconst 0, 1) := by decide +kernel
theorem dX7_answersTo_1 : decode cX7_answersTo 1 = .ok (.istore_n 2, 1) := by decide +kernel
theorem dX7_answersTo_2 : decode cX7_answersTo 2 = .ok (.iconst 0, 1) := by decide +kernel
theorem dX7_answersTo_3 : decode cX7_answersTo 3 = .ok (.istore_n 3, 1) := by decide +kernel
theorem dX7_answersTo_4 : decode cX7_answersTo 4 = .ok (.iload_n 3, 1) := by decide +kernel
theorem dX7_answersTo_5 : decode cX7_answersTo 5 = .ok (.aload_n 0, 1) := by decide +kernel
theorem dX7_answersTo_6 : decode cX7_answersTo 6 = .ok (.getfield 7, 3) := by decide +kernel
theorem dX7_answersTo_9 : decode cX7_answersTo 9 = .ok (.iconst 3, 1) := by decide +kernel
theorem dX7_answersTo_10 : decode cX7_answersTo 10 = .ok (.iaload, 1) := by decide +kernel
theorem dX7_answersTo_11 : decode cX7_answersTo 11 = .ok (.if_icmp .ge 29, 3) := by decide +kernel
theorem dX7_answersTo_14 : decode cX7_answersTo 14 = .ok (.iload_n 2, 1) := by decide +kernel
theorem dX7_answersTo_15 : decode cX7_answersTo 15 = .ok (.aload_n 0, 1) := by decide +kernel
theorem dX7_answersTo_16 : decode cX7_answersTo 16 = .ok (.iload_n 3, 1) := by decide +kernel
theorem dX7_answersTo_17 : decode cX7_answersTo 17 = .ok (.iconst 4, 1) := by decide +kernel
theorem dX7_answersTo_18 : decode cX7_answersTo 18 = .ok (.invokevirtual 42, 3) := by decide +kernel
theorem dX7_answersTo_21 : decode cX7_answersTo 21 = .ok (.iload_n 1, 1) := by decide +kernel
theorem dX7_answersTo_22 : decode cX7_answersTo 22 = .ok (.if_icmp .ne 9, 3) := by decide +kernel
theorem dX7_answersTo_25 : decode cX7_answersTo 25 = .ok (.iconst 1, 1) := by decide +kernel
theorem dX7_answersTo_26 : decode cX7_answersTo 26 = .ok (.iload_n 3, 1) := by decide +kernel
theorem dX7_answersTo_27 : decode cX7_answersTo 27 = .ok (.ishl, 1) := by decide +kernel
theorem dX7_answersTo_28 : decode cX7_answersTo 28 = .ok (.goto 4, 3) := by decide +kernel
theorem dX7_answersTo_31 : decode cX7_answersTo 31 = .ok (.iconst 0, 1) := by decide +kernel
theorem dX7_answersTo_32 : decode cX7_answersTo 32 = .ok (.ior, 1) := by decide +kernel
theorem dX7_answersTo_33 : decode cX7_answersTo 33 = .ok (.istore_n 2, 1) := by decide +kernel
theorem dX7_answersTo_34 : decode cX7_answersTo 34 = .ok (.iinc 3 1, 3) := by decide +kernel
theorem dX7_answersTo_37 : decode cX7_answersTo 37 = .ok (.goto (-33), 3) := by decide +kernel
theorem dX7_answersTo_40 : decode cX7_answersTo 40 = .ok (.iload_n 2, 1) := by decide +kernel
theorem dX7_answersTo_41 : decode cX7_answersTo 41 = .ok (.ireturn, 1) := by decide +kernel
set_option maxRecDepth 20000 in
theorem ggX7_isValue_X7_in : GoodIn wsX7_isValue wsX7_in := goodIn_r _ [4] (by decide +kernel) (by decide +kernel)
set_option maxRecDepth 20000 in
theorem gX7_isValue_X7_in : GoodIn wsX7_isValue (va_wsS RX7 50 yX7_in wsX7_in) := goodIn_app (goodIn_of _ (by decide +kernel)) ggX7_isValue_X7_in
theorem dX7_isValue_0 : decode cX7_isValue 0 = .ok (.iload_n 0, 1) := by decide +kernel
theorem dX7_isValue_1 : decode cX7_isValue 1 = .ok (.ifCond .ne 13, 3) := by decide +kernel
theorem dX7_isValue_4 : decode cX7_isValue 4 = .ok (.iload_n 1, 1) := by decide +kernel
theorem dX7_isValue_5 : decode cX7_isValue 5 = .ok (.iconst 1, 1) := by decide +kernel
theorem dX7_isValue_6 : decode cX7_isValue 6 = .ok (.bipush 60, 2) := by decide +kernel
theorem dX7_isValue_8 : decode cX7_isValue 8 = .ok (.invokestatic 50, 3) := by decide +kernel
theorem dX7_isValue_11 : decode cX7_isValue 11 = .ok (.goto 10, 3) := by decide +kernel
theorem dX7_isValue_14 : decode cX7_isValue 14 = .ok (.iload_n 1, 1) := by decide +kernel
theorem dX7_isValue_15 : decode cX7_isValue 15 = .ok (.iconst 1, 1) := by decide +kernel
theorem dX7_isValue_16 : decode cX7_isValue 16 = .ok (.bipush 99, 2) := by decide +kernel
theorem dX7_isValue_18 : decode cX7_isValue 18 = .ok (.invokestatic 50, 3) := by decide +kernel
theorem dX7_isValue_21 : decode cX7_isValue 21 = .ok (.ireturn, 1) := by decide +kernel
set_option maxRecDepth 20000 in
theorem ggX7_set_X7_in : GoodIn wsX7_set wsX7_in := goodIn_r _ [5] (by decide +kernel) (by decide +kernel)
set_option maxRecDepth 20000 in
theorem gX7_set_X7_in : GoodIn wsX7_set (va_wsS RX7 50 yX7_in wsX7_in) := goodIn_app (goodIn_of _ (by decide +kernel)) ggX7_set_X7_in
set_option maxRecDepth 20000 in
theorem ggX7_set_X7_isValue : GoodIn wsX7_set wsX7_isValue := goodIn_r _ [8, 2, 3, 4, 5] (by decide +kernel) (by decide +kernel)
set_option maxRecDepth 20000 in
theorem gX7_set_X7_isValue : GoodIn wsX7_set (va_wsS RX7 77 yX7_isValue wsX7_isValue) := goodIn_app (goodIn_of _ (by decide +kernel)) ggX7_set_X7_isValue
set_option maxRecDepth 20000 in
theorem ggX7_set_X7_record : GoodIn wsX7_set wsX7_record := goodIn_r _ [12, 13, 14, 1, 15, 16, 17, 18, 19, 20, 21, 22, 23, 24, 25, 26, 27, 28, 29] (by decide +kernel) (by decide +kernel)
set_option maxRecDepth 20000 in
theorem gX7_set_X7_record : GoodIn wsX7_set (wsV RX7 54 RX7 yX7_record wsX7_record) := goodIn_app (goodIn_of _ (by decide +kernel)) ggX7_set_X7_record
theorem dX7_set_0 : decode cX7_set 0 = .ok (.iload_n 1, 1) := by decide +kernel
theorem dX7_set_1 : decode cX7_set 1 = .ok (.iconst 0, 1) := by decide +kernel
theorem dX7_set_2 : decode cX7_set 2 = .ok (.iconst 1, 1) := by decide +kernel
theorem dX7_set_3 : decode cX7_set 3 = .ok (.invokestatic 50, 3) := by decide +kernel
theorem dX7_set_6 : decode cX7_set 6 = .ok (.ifCond .eq 11, 3) := by decide +kernel
theorem dX7_set_9 : decode cX7_set 9 = .ok (.iload_n 1, 1) := by decide +kernel
theorem dX7_set_10 : decode cX7_set 10 = .ok (.iload_n 2, 1) := by decide +kernel
theorem dX7_set_11 : decode cX7_set 11 = .ok (.invokestatic 77, 3) := by decide +kernel
theorem dX7_set_14 : decode cX7_set 14 = .ok (.ifCond .ne 6, 3) := by decide +kernel
theorem dX7_set_17 : decode cX7_set 17 = .ok (.bipush (-2), 2) := by decide +kernel
theorem dX7_set_19 : decode cX7_set 19 = .ok (.ireturn, 1) := by decide +kernel
theorem dX7_set_20 : decode cX7_set 20 = .ok (.aload_n 0, 1) := by decide +kernel
theorem dX7_set_21 : decode cX7_set 21 = .ok (.invokevirtual 54, 3) := by decide +kernel
theorem dX7_set_24 : decode cX7_set 24 = .ok (.aload_n 0, 1) := by decide +kernel
theorem dX7_set_25 : decode cX7_set 25 = .ok (.getfield 7, 3) := by decide +kernel
theorem dX7_set_28 : decode cX7_set 28 = .ok (.iload_n 1, 1) := by decide +kernel
theorem dX7_set_29 : decode cX7_set 29 = .ok (.iaload, 1) := by decide +kernel
theorem dX7_set_30 : decode cX7_set 30 = .ok (.istore_n 3, 1) := by decide +kernel
theorem dX7_set_31 : decode cX7_set 31 = .ok (.aload_n 0, 1) := by decide +kernel
theorem dX7_set_32 : decode cX7_set 32 = .ok (.getfield 7, 3) := by decide +kernel
theorem dX7_set_35 : decode cX7_set 35 = .ok (.iload_n 1, 1) := by decide +kernel
theorem dX7_set_36 : decode cX7_set 36 = .ok (.iload_n 2, 1) := by decide +kernel
theorem dX7_set_37 : decode cX7_set 37 = .ok (.iastore, 1) := by decide +kernel
theorem dX7_set_38 : decode cX7_set 38 = .ok (.iload_n 3, 1) := by decide +kernel
theorem dX7_set_39 : decode cX7_set 39 = .ok (.ireturn, 1) := by decide +kernel
set_option maxRecDepth 20000 in
theorem ggX7_file_X7_lay : GoodIn wsX7_file wsX7_lay := goodIn_r _ [6, 1, 7, 8, 9, 10, 11, 12, 13, 14, 15, 16, 17, 18, 19, 20, 21] (by decide +kernel) (by decide +kernel)
set_option maxRecDepth 20000 in
theorem gX7_file_X7_lay : GoodIn wsX7_file (wsV RX7 81 RX7 yX7_lay wsX7_lay) := goodIn_app (goodIn_of _ (by decide +kernel)) ggX7_file_X7_lay
theorem dX7_file_0 : decode cX7_file 0 = .ok (.aload_n 0, 1) := by decide +kernel
theorem dX7_file_1 : decode cX7_file 1 = .ok (.getfield 7, 3) := by decide +kernel
theorem dX7_file_4 : decode cX7_file 4 = .ok (.iconst 3, 1) := by decide +kernel
theorem dX7_file_5 : decode cX7_file 5 = .ok (.iaload, 1) := by decide +kernel
theorem dX7_file_6 : decode cX7_file 6 = .ok (.istore 5, 2) := by decide +kernel
theorem dX7_file_8 : decode cX7_file 8 = .ok (.aload_n 0, 1) := by decide +kernel
theorem dX7_file_9 : decode cX7_file 9 = .ok (.iload 5, 2) := by decide +kernel
theorem dX7_file_11 : decode cX7_file 11 = .ok (.iconst 0, 1) := by decide +kernel
theorem dX7_file_12 : decode cX7_file 12 = .ok (.iload_n 1, 1) := by decide +kernel
theorem dX7_file_13 : decode cX7_file 13 = .ok (.invokevirtual 81, 3) := by decide +kernel
theorem dX7_file_16 : decode cX7_file 16 = .ok (.aload_n 0, 1) := by decide +kernel
theorem dX7_file_17 : decode cX7_file 17 = .ok (.iload 5, 2) := by decide +kernel
theorem dX7_file_19 : decode cX7_file 19 = .ok (.iconst 1, 1) := by decide +kernel
theorem dX7_file_20 : decode cX7_file 20 = .ok (.iload_n 3, 1) := by decide +kernel
theorem dX7_file_21 : decode cX7_file 21 = .ok (.invokevirtual 81, 3) := by decide +kernel
theorem dX7_file_24 : decode cX7_file 24 = .ok (.aload_n 0, 1) := by decide +kernel
theorem dX7_file_25 : decode cX7_file 25 = .ok (.iload 5, 2) := by decide +kernel
theorem dX7_file_27 : decode cX7_file 27 = .ok (.iconst 2, 1) := by decide +kernel
theorem dX7_file_28 : decode cX7_file 28 = .ok (.aload_n 0, 1) := by decide +kernel
theorem dX7_file_29 : decode cX7_file 29 = .ok (.getfield 7, 3) := by decide +kernel
theorem dX7_file_32 : decode cX7_file 32 = .ok (.iconst 2, 1) := by decide +kernel
theorem dX7_file_33 : decode cX7_file 33 = .ok (.iaload, 1) := by decide +kernel
theorem dX7_file_34 : decode cX7_file 34 = .ok (.invokevirtual 81, 3) := by decide +kernel
theorem dX7_file_37 : decode cX7_file 37 = .ok (.aload_n 0, 1) := by decide +kernel
theorem dX7_file_38 : decode cX7_file 38 = .ok (.iload 5, 2) := by decide +kernel
theorem dX7_file_40 : decode cX7_file 40 = .ok (.iconst 3, 1) := by decide +kernel
theorem dX7_file_41 : decode cX7_file 41 = .ok (.aload_n 0, 1) := by decide +kernel
theorem dX7_file_42 : decode cX7_file 42 = .ok (.getfield 7, 3) := by decide +kernel
theorem dX7_file_45 : decode cX7_file 45 = .ok (.iconst 2, 1) := by decide +kernel
theorem dX7_file_46 : decode cX7_file 46 = .ok (.iaload, 1) := by decide +kernel
theorem dX7_file_47 : decode cX7_file 47 = .ok (.invokevirtual 81, 3) := by decide +kernel
theorem dX7_file_50 : decode cX7_file 50 = .ok (.aload_n 0, 1) := by decide +kernel
theorem dX7_file_51 : decode cX7_file 51 = .ok (.iload 5, 2) := by decide +kernel
theorem dX7_file_53 : decode cX7_file 53 = .ok (.iconst 4, 1) := by decide +kernel
theorem dX7_file_54 : decode cX7_file 54 = .ok (.iload_n 2, 1) := by decide +kernel
theorem dX7_file_55 : decode cX7_file 55 = .ok (.invokevirtual 81, 3) := by decide +kernel
theorem dX7_file_58 : decode cX7_file 58 = .ok (.aload_n 0, 1) := by decide +kernel
theorem dX7_file_59 : decode cX7_file 59 = .ok (.iload 5, 2) := by decide +kernel
theorem dX7_file_61 : decode cX7_file 61 = .ok (.iconst 5, 1) := by decide +kernel
theorem dX7_file_62 : decode cX7_file 62 = .ok (.iload 4, 2) := by decide +kernel
theorem dX7_file_64 : decode cX7_file 64 = .ok (.invokevirtual 81, 3) := by decide +kernel
theorem dX7_file_67 : decode cX7_file 67 = .ok (.aload_n 0, 1) := by decide +kernel
theorem dX7_file_68 : decode cX7_file 68 = .ok (.iload 5, 2) := by decide +kernel
theorem dX7_file_70 : decode cX7_file 70 = .ok (.bipush 6, 2) := by decide +kernel
theorem dX7_file_72 : decode cX7_file 72 = .ok (.iconst 0, 1) := by decide +kernel
theorem dX7_file_73 : decode cX7_file 73 = .ok (.invokevirtual 81, 3) := by decide +kernel
theorem dX7_file_76 : decode cX7_file 76 = .ok (.aload_n 0, 1) := by decide +kernel
theorem dX7_file_77 : decode cX7_file 77 = .ok (.getfield 7, 3) := by decide +kernel
theorem dX7_file_80 : decode cX7_file 80 = .ok (.iconst 3, 1) := by decide +kernel
theorem dX7_file_81 : decode cX7_file 81 = .ok (.dup2, 1) := by decide +kernel
theorem dX7_file_82 : decode cX7_file 82 = .ok (.iaload, 1) := by decide +kernel
theorem dX7_file_83 : decode cX7_file 83 = .ok (.iconst 1, 1) := by decide +kernel
theorem dX7_file_84 : decode cX7_file 84 = .ok (.iadd, 1) := by decide +kernel
theorem dX7_file_85 : decode cX7_file 85 = .ok (.iastore, 1) := by decide +kernel
theorem dX7_file_86 : decode cX7_file 86 = .ok (.iload 5, 2) := by decide +kernel
theorem dX7_file_88 : decode cX7_file 88 = .ok (.ireturn, 1) := by decide +kernel
set_option maxRecDepth 20000 in
theorem ggX7_isFile_X7_in : GoodIn wsX7_isFile wsX7_in := goodIn_r _ [4] (by decide +kernel) (by decide +kernel)
set_option maxRecDepth 20000 in
theorem gX7_isFile_X7_in : GoodIn wsX7_isFile (va_wsS RX7 50 yX7_in wsX7_in) := goodIn_app (goodIn_of _ (by decide +kernel)) ggX7_isFile_X7_in
theorem dX7_isFile_0 : decode cX7_isFile 0 = .ok (.iload_n 0, 1) := by decide +kernel
theorem dX7_isFile_1 : decode cX7_isFile 1 = .ok (.iconst 1, 1) := by decide +kernel
theorem dX7_isFile_2 : decode cX7_isFile 2 = .ok (.bipush 9, 2) := by decide +kernel
theorem dX7_isFile_4 : decode cX7_isFile 4 = .ok (.invokestatic 50, 3) := by decide +kernel
theorem dX7_isFile_7 : decode cX7_isFile 7 = .ok (.ifCond .eq 18, 3) := by decide +kernel
theorem dX7_isFile_10 : decode cX7_isFile 10 = .ok (.iload_n 1, 1) := by decide +kernel
theorem dX7_isFile_11 : decode cX7_isFile 11 = .ok (.iconst 0, 1) := by decide +kernel
theorem dX7_isFile_12 : decode cX7_isFile 12 = .ok (.sipush 1023, 3) := by decide +kernel
theorem dX7_isFile_15 : decode cX7_isFile 15 = .ok (.invokestatic 50, 3) := by decide +kernel
theorem dX7_isFile_18 : decode cX7_isFile 18 = .ok (.ifCond .eq 7, 3) := by decide +kernel
theorem dX7_isFile_21 : decode cX7_isFile 21 = .ok (.iconst 1, 1) := by decide +kernel
theorem dX7_isFile_22 : decode cX7_isFile 22 = .ok (.goto 4, 3) := by decide +kernel
theorem dX7_isFile_25 : decode cX7_isFile 25 = .ok (.iconst 0, 1) := by decide +kernel
theorem dX7_isFile_26 : decode cX7_isFile 26 = .ok (.ireturn, 1) := by decide +kernel
set_option maxRecDepth 20000 in
theorem ggX7_whyNotClaim_X7_in : GoodIn wsX7_whyNotClaim wsX7_in := goodIn_r _ [5] (by decide +kernel) (by decide +kernel)
set_option maxRecDepth 20000 in
theorem gX7_whyNotClaim_X7_in : GoodIn wsX7_whyNotClaim (va_wsS RX7 50 yX7_in wsX7_in) := goodIn_app (goodIn_of _ (by decide +kernel)) ggX7_whyNotClaim_X7_in
set_option maxRecDepth 20000 in
theorem ggX7_whyNotClaim_X7_isFile : GoodIn wsX7_whyNotClaim wsX7_isFile := goodIn_r _ [8, 2, 3, 4, 5] (by decide +kernel) (by decide +kernel)
set_option maxRecDepth 20000 in
theorem gX7_whyNotClaim_X7_isFile : GoodIn wsX7_whyNotClaim (va_wsS RX7 85 yX7_isFile wsX7_isFile) := goodIn_app (goodIn_of _ (by decide +kernel)) ggX7_whyNotClaim_X7_isFile
theorem dX7_whyNotClaim_0 : decode cX7_whyNotClaim 0 = .ok (.iload_n 1, 1) := by decide +kernel
theorem dX7_whyNotClaim_1 : decode cX7_whyNotClaim 1 = .ok (.iconst 0, 1) := by decide +kernel
theorem dX7_whyNotClaim_2 : decode cX7_whyNotClaim 2 = .ok (.iconst 1, 1) := by decide +kernel
theorem dX7_whyNotClaim_3 : decode cX7_whyNotClaim 3 = .ok (.invokestatic 50, 3) := by decide +kernel
theorem dX7_whyNotClaim_6 : decode cX7_whyNotClaim 6 = .ok (.ifCond .eq 11, 3) := by decide +kernel
theorem dX7_whyNotClaim_9 : decode cX7_whyNotClaim 9 = .ok (.iload_n 2, 1) := by decide +kernel
theorem dX7_whyNotClaim_10 : decode cX7_whyNotClaim 10 = .ok (.iload_n 3, 1) := by decide +kernel
theorem dX7_whyNotClaim_11 : decode cX7_whyNotClaim 11 = .ok (.invokestatic 85, 3) := by decide +kernel
theorem dX7_whyNotClaim_14 : decode cX7_whyNotClaim 14 = .ok (.ifCond .ne 8, 3) := by decide +kernel
theorem dX7_whyNotClaim_17 : decode cX7_whyNotClaim 17 = .ok (.bipush (-2), 2) := by decide +kernel
theorem dX7_whyNotClaim_19 : decode cX7_whyNotClaim 19 = .ok (.goto 20, 3) := by decide +kernel
theorem dX7_whyNotClaim_22 : decode cX7_whyNotClaim 22 = .ok (.aload_n 0, 1) := by decide +kernel
theorem dX7_whyNotClaim_23 : decode cX7_whyNotClaim 23 = .ok (.getfield 7, 3) := by decide +kernel
theorem dX7_whyNotClaim_26 : decode cX7_whyNotClaim 26 = .ok (.iconst 3, 1) := by decide +kernel
theorem dX7_whyNotClaim_27 : decode cX7_whyNotClaim 27 = .ok (.iaload, 1) := by decide +kernel
theorem dX7_whyNotClaim_28 : decode cX7_whyNotClaim 28 = .ok (.bipush 24, 2) := by decide +kernel
theorem dX7_whyNotClaim_30 : decode cX7_whyNotClaim 30 = .ok (.if_icmp .ne 8, 3) := by decide +kernel
theorem dX7_whyNotClaim_33 : decode cX7_whyNotClaim 33 = .ok (.bipush (-4), 2) := by decide +kernel
theorem dX7_whyNotClaim_35 : decode cX7_whyNotClaim 35 = .ok (.goto 4, 3) := by decide +kernel
theorem dX7_whyNotClaim_38 : decode cX7_whyNotClaim 38 = .ok (.iconst 0, 1) := by decide +kernel
theorem dX7_whyNotClaim_39 : decode cX7_whyNotClaim 39 = .ok (.ireturn, 1) := by decide +kernel
set_option maxRecDepth 20000 in
theorem ggX7_claim_X7_whyNotClaim : GoodIn wsX7_claim wsX7_whyNotClaim := goodIn_r _ [5, 6, 7, 8, 4, 9, 10, 11, 12, 27, 28, 29, 30, 31, 32, 33, 34, 35, 36, 37, 38, 39, 40, 41] (by decide +kernel) (by decide +kernel)
set_option maxRecDepth 20000 in
theorem gX7_claim_X7_whyNotClaim : GoodIn wsX7_claim (wsV RX7 88 RX7 yX7_whyNotClaim wsX7_whyNotClaim) := goodIn_app (goodIn_of _ (by decide +kernel)) ggX7_claim_X7_whyNotClaim
set_option maxRecDepth 20000 in
theorem ggX7_claim_X7_record : GoodIn wsX7_claim wsX7_record := goodIn_r _ [16, 17, 18, 6, 27, 28, 29, 30, 31, 32, 33, 34, 35, 36, 37, 38, 39, 40, 41] (by decide +kernel) (by decide +kernel)
set_option maxRecDepth 20000 in
theorem gX7_claim_X7_record : GoodIn wsX7_claim (wsV RX7 54 RX7 yX7_record wsX7_record) := goodIn_app (goodIn_of _ (by decide +kernel)) ggX7_claim_X7_record
set_option maxRecDepth 20000 in
theorem ggX7_claim_X7_file : GoodIn wsX7_claim wsX7_file := goodIn_r _ [22, 6, 23, 24, 25, 4, 26, 27, 28, 29, 30, 31, 32, 33, 34, 35, 36, 37, 38, 39, 40, 41] (by decide +kernel) (by decide +kernel)
set_option maxRecDepth 20000 in
theorem gX7_claim_X7_file : GoodIn wsX7_claim (wsV RX7 92 RX7 yX7_file wsX7_file) := goodIn_app (goodIn_of _ (by decide +kernel)) ggX7_claim_X7_file
theorem dX7_claim_0 : decode cX7_claim 0 = .ok (.aload_n 0, 1) := by decide +kernel
theorem dX7_claim_1 : decode cX7_claim 1 = .ok (.iload_n 1, 1) := by decide +kernel
theorem dX7_claim_2 : decode cX7_claim 2 = .ok (.iload_n 2, 1) := by decide +kernel
theorem dX7_claim_3 : decode cX7_claim 3 = .ok (.iload_n 3, 1) := by decide +kernel
theorem dX7_claim_4 : decode cX7_claim 4 = .ok (.invokevirtual 88, 3) := by decide +kernel
theorem dX7_claim_7 : decode cX7_claim 7 = .ok (.istore 4, 2) := by decide +kernel
theorem dX7_claim_9 : decode cX7_claim 9 = .ok (.iload 4, 2) := by decide +kernel
theorem dX7_claim_11 : decode cX7_claim 11 = .ok (.ifCond .ge 6, 3) := by decide +kernel
theorem dX7_claim_14 : decode cX7_claim 14 = .ok (.iload 4, 2) := by decide +kernel
theorem dX7_claim_16 : decode cX7_claim 16 = .ok (.ireturn, 1) := by decide +kernel
theorem dX7_claim_17 : decode cX7_claim 17 = .ok (.aload_n 0, 1) := by decide +kernel
theorem dX7_claim_18 : decode cX7_claim 18 = .ok (.invokevirtual 54, 3) := by decide +kernel
theorem dX7_claim_21 : decode cX7_claim 21 = .ok (.aload_n 0, 1) := by decide +kernel
theorem dX7_claim_22 : decode cX7_claim 22 = .ok (.iload_n 1, 1) := by decide +kernel
theorem dX7_claim_23 : decode cX7_claim 23 = .ok (.bipush (-6), 2) := by decide +kernel
theorem dX7_claim_25 : decode cX7_claim 25 = .ok (.iload_n 2, 1) := by decide +kernel
theorem dX7_claim_26 : decode cX7_claim 26 = .ok (.iload_n 3, 1) := by decide +kernel
theorem dX7_claim_27 : decode cX7_claim 27 = .ok (.invokevirtual 92, 3) := by decide +kernel
theorem dX7_claim_30 : decode cX7_claim 30 = .ok (.ireturn, 1) := by decide +kernel
set_option maxRecDepth 20000 in
theorem ggX7_whyNotAnswer_X7_isPoint : GoodIn wsX7_whyNotAnswer wsX7_isPoint := goodIn_r _ [6, 1, 21, 22, 23, 24, 25, 26, 27, 28, 29, 30, 31, 32, 33, 34, 35] (by decide +kernel) (by decide +kernel)
set_option maxRecDepth 20000 in
theorem gX7_whyNotAnswer_X7_isPoint : GoodIn wsX7_whyNotAnswer (wsV RX7 96 RX7 yX7_isPoint wsX7_isPoint) := goodIn_app (goodIn_of _ (by decide +kernel)) ggX7_whyNotAnswer_X7_isPoint
set_option maxRecDepth 20000 in
theorem ggX7_whyNotAnswer_X7_isFile : GoodIn wsX7_whyNotAnswer wsX7_isFile := goodIn_r _ [9, 10, 11, 5, 12] (by decide +kernel) (by decide +kernel)
set_option maxRecDepth 20000 in
theorem gX7_whyNotAnswer_X7_isFile : GoodIn wsX7_whyNotAnswer (va_wsS RX7 85 yX7_isFile wsX7_isFile) := goodIn_app (goodIn_of _ (by decide +kernel)) ggX7_whyNotAnswer_X7_isFile
set_option maxRecDepth 20000 in
theorem ggX7_whyNotAnswer_X7_isWithdrawn : GoodIn wsX7_whyNotAnswer wsX7_isWithdrawn := goodIn_r _ [16, 17, 18, 19, 5, 20, 1, 21, 22, 23, 24, 25, 26, 27, 28, 29, 30, 31, 32, 33, 34, 35] (by decide +kernel) (by decide +kernel)
set_option maxRecDepth 20000 in
theorem gX7_whyNotAnswer_X7_isWithdrawn : GoodIn wsX7_whyNotAnswer (wsV RX7 61 RX7 yX7_isWithdrawn wsX7_isWithdrawn) := goodIn_app (goodIn_of _ (by decide +kernel)) ggX7_whyNotAnswer_X7_isWithdrawn
theorem dX7_whyNotAnswer_0 : decode cX7_whyNotAnswer 0 = .ok (.aload_n 0, 1) := by decide +kernel
theorem dX7_whyNotAnswer_1 : decode cX7_whyNotAnswer 1 = .ok (.iload_n 1, 1) := by decide +kernel
theorem dX7_whyNotAnswer_2 : decode cX7_whyNotAnswer 2 = .ok (.invokevirtual 96, 3) := by decide +kernel
theorem dX7_whyNotAnswer_5 : decode cX7_whyNotAnswer 5 = .ok (.ifCond .ne 5, 3) := by decide +kernel
theorem dX7_whyNotAnswer_8 : decode cX7_whyNotAnswer 8 = .ok (.iconst (-1), 1) := by decide +kernel
theorem dX7_whyNotAnswer_9 : decode cX7_whyNotAnswer 9 = .ok (.ireturn, 1) := by decide +kernel
theorem dX7_whyNotAnswer_10 : decode cX7_whyNotAnswer 10 = .ok (.iload_n 2, 1) := by decide +kernel
theorem dX7_whyNotAnswer_11 : decode cX7_whyNotAnswer 11 = .ok (.iload_n 3, 1) := by decide +kernel
theorem dX7_whyNotAnswer_12 : decode cX7_whyNotAnswer 12 = .ok (.invokestatic 85, 3) := by decide +kernel
theorem dX7_whyNotAnswer_15 : decode cX7_whyNotAnswer 15 = .ok (.ifCond .ne 8, 3) := by decide +kernel
theorem dX7_whyNotAnswer_18 : decode cX7_whyNotAnswer 18 = .ok (.bipush (-2), 2) := by decide +kernel
theorem dX7_whyNotAnswer_20 : decode cX7_whyNotAnswer 20 = .ok (.goto 33, 3) := by decide +kernel
theorem dX7_whyNotAnswer_23 : decode cX7_whyNotAnswer 23 = .ok (.aload_n 0, 1) := by decide +kernel
theorem dX7_whyNotAnswer_24 : decode cX7_whyNotAnswer 24 = .ok (.getfield 7, 3) := by decide +kernel
theorem dX7_whyNotAnswer_27 : decode cX7_whyNotAnswer 27 = .ok (.iconst 3, 1) := by decide +kernel
theorem dX7_whyNotAnswer_28 : decode cX7_whyNotAnswer 28 = .ok (.iaload, 1) := by decide +kernel
theorem dX7_whyNotAnswer_29 : decode cX7_whyNotAnswer 29 = .ok (.bipush 24, 2) := by decide +kernel
theorem dX7_whyNotAnswer_31 : decode cX7_whyNotAnswer 31 = .ok (.if_icmp .ne 8, 3) := by decide +kernel
theorem dX7_whyNotAnswer_34 : decode cX7_whyNotAnswer 34 = .ok (.bipush (-4), 2) := by decide +kernel
theorem dX7_whyNotAnswer_36 : decode cX7_whyNotAnswer 36 = .ok (.goto 17, 3) := by decide +kernel
theorem dX7_whyNotAnswer_39 : decode cX7_whyNotAnswer 39 = .ok (.aload_n 0, 1) := by decide +kernel
theorem dX7_whyNotAnswer_40 : decode cX7_whyNotAnswer 40 = .ok (.iload_n 1, 1) := by decide +kernel
theorem dX7_whyNotAnswer_41 : decode cX7_whyNotAnswer 41 = .ok (.invokevirtual 61, 3) := by decide +kernel
theorem dX7_whyNotAnswer_44 : decode cX7_whyNotAnswer 44 = .ok (.ifCond .eq 8, 3) := by decide +kernel
theorem dX7_whyNotAnswer_47 : decode cX7_whyNotAnswer 47 = .ok (.bipush (-5), 2) := by decide +kernel
theorem dX7_whyNotAnswer_49 : decode cX7_whyNotAnswer 49 = .ok (.goto 4, 3) := by decide +kernel
theorem dX7_whyNotAnswer_52 : decode cX7_whyNotAnswer 52 = .ok (.iconst 0, 1) := by decide +kernel
theorem dX7_whyNotAnswer_53 : decode cX7_whyNotAnswer 53 = .ok (.ireturn, 1) := by decide +kernel
set_option maxRecDepth 20000 in
theorem ggX7_answer_X7_whyNotAnswer : GoodIn wsX7_answer wsX7_whyNotAnswer := goodIn_r _ [5, 6, 7, 8, 9, 4, 10, 11, 12, 13, 14, 15, 16, 17, 18, 19, 20, 21, 22, 23, 24, 39, 40, 41, 42, 43, 44, 45, 46, 47, 48, 49, 50, 51, 52, 53] (by decide +kernel) (by decide +kernel)
set_option maxRecDepth 20000 in
theorem gX7_answer_X7_whyNotAnswer : GoodIn wsX7_answer (wsV RX7 99 RX7 yX7_whyNotAnswer wsX7_whyNotAnswer) := goodIn_app (goodIn_of _ (by decide +kernel)) ggX7_answer_X7_whyNotAnswer
set_option maxRecDepth 20000 in
theorem ggX7_answer_X7_record : GoodIn wsX7_answer wsX7_record := goodIn_r _ [28, 29, 30, 6, 39, 40, 41, 42, 43, 44, 45, 46, 47, 48, 49, 50, 51, 52, 53] (by decide +kernel) (by decide +kernel)
set_option maxRecDepth 20000 in
theorem gX7_answer_X7_record : GoodIn wsX7_answer (wsV RX7 54 RX7 yX7_record wsX7_record) := goodIn_app (goodIn_of _ (by decide +kernel)) ggX7_answer_X7_record
set_option maxRecDepth 20000 in
theorem ggX7_answer_X7_its : GoodIn wsX7_answer wsX7_its := goodIn_r _ [24, 6, 39, 40, 41, 42, 43, 44, 45, 46, 47, 48, 49, 50, 51, 52, 53] (by decide +kernel) (by decide +kernel)
set_option maxRecDepth 20000 in
theorem gX7_answer_X7_its : GoodIn wsX7_answer (wsV RX7 42 RX7 yX7_its wsX7_its) := goodIn_app (goodIn_of _ (by decide +kernel)) ggX7_answer_X7_its
set_option maxRecDepth 20000 in
theorem ggX7_answer_X7_file : GoodIn wsX7_answer wsX7_file := goodIn_r _ [34, 6, 35, 36, 37, 4, 38, 39, 40, 41, 42, 43, 44, 45, 46, 47, 48, 49, 50, 51, 52, 53] (by decide +kernel) (by decide +kernel)
set_option maxRecDepth 20000 in
theorem gX7_answer_X7_file : GoodIn wsX7_answer (wsV RX7 92 RX7 yX7_file wsX7_file) := goodIn_app (goodIn_of _ (by decide +kernel)) ggX7_answer_X7_file
theorem dX7_answer_0 : decode cX7_answer 0 = .ok (.aload_n 0, 1) := by decide +kernel
theorem dX7_answer_1 : decode cX7_answer 1 = .ok (.iload_n 1, 1) := by decide +kernel
theorem dX7_answer_2 : decode cX7_answer 2 = .ok (.iload_n 2, 1) := by decide +kernel
theorem dX7_answer_3 : decode cX7_answer 3 = .ok (.iload_n 3, 1) := by decide +kernel
theorem dX7_answer_4 : decode cX7_answer 4 = .ok (.invokevirtual 99, 3) := by decide +kernel
theorem dX7_answer_7 : decode cX7_answer 7 = .ok (.istore 4, 2) := by decide +kernel
theorem dX7_answer_9 : decode cX7_answer 9 = .ok (.iload 4, 2) := by decide +kernel
theorem dX7_answer_11 : decode cX7_answer 11 = .ok (.ifCond .ge 6, 3) := by decide +kernel
theorem dX7_answer_14 : decode cX7_answer 14 = .ok (.iload 4, 2) := by decide +kernel
theorem dX7_answer_16 : decode cX7_answer 16 = .ok (.ireturn, 1) := by decide +kernel
theorem dX7_answer_17 : decode cX7_answer 17 = .ok (.aload_n 0, 1) := by decide +kernel
theorem dX7_answer_18 : decode cX7_answer 18 = .ok (.invokevirtual 54, 3) := by decide +kernel
theorem dX7_answer_21 : decode cX7_answer 21 = .ok (.aload_n 0, 1) := by decide +kernel
theorem dX7_answer_22 : decode cX7_answer 22 = .ok (.iconst 1, 1) := by decide +kernel
theorem dX7_answer_23 : decode cX7_answer 23 = .ok (.aload_n 0, 1) := by decide +kernel
theorem dX7_answer_24 : decode cX7_answer 24 = .ok (.iload_n 1, 1) := by decide +kernel
theorem dX7_answer_25 : decode cX7_answer 25 = .ok (.iconst 0, 1) := by decide +kernel
theorem dX7_answer_26 : decode cX7_answer 26 = .ok (.invokevirtual 42, 3) := by decide +kernel
theorem dX7_answer_29 : decode cX7_answer 29 = .ok (.isub, 1) := by decide +kernel
theorem dX7_answer_30 : decode cX7_answer 30 = .ok (.iload_n 1, 1) := by decide +kernel
theorem dX7_answer_31 : decode cX7_answer 31 = .ok (.iload_n 2, 1) := by decide +kernel
theorem dX7_answer_32 : decode cX7_answer 32 = .ok (.iload_n 3, 1) := by decide +kernel
theorem dX7_answer_33 : decode cX7_answer 33 = .ok (.invokevirtual 92, 3) := by decide +kernel
theorem dX7_answer_36 : decode cX7_answer 36 = .ok (.ireturn, 1) := by decide +kernel
set_option maxRecDepth 20000 in
theorem ggX7_whyNotWithdraw_X7_isPoint : GoodIn wsX7_whyNotWithdraw wsX7_isPoint := goodIn_r _ [5, 6, 15, 16, 17, 18, 19, 20, 21, 22, 23, 24, 25, 26, 27, 28, 29] (by decide +kernel) (by decide +kernel)
set_option maxRecDepth 20000 in
theorem gX7_whyNotWithdraw_X7_isPoint : GoodIn wsX7_whyNotWithdraw (wsV RX7 96 RX7 yX7_isPoint wsX7_isPoint) := goodIn_app (goodIn_of _ (by decide +kernel)) ggX7_whyNotWithdraw_X7_isPoint
set_option maxRecDepth 20000 in
theorem ggX7_whyNotWithdraw_X7_isWithdrawn : GoodIn wsX7_whyNotWithdraw wsX7_isWithdrawn := goodIn_r _ [10, 11, 12, 13, 4, 14, 6, 15, 16, 17, 18, 19, 20, 21, 22, 23, 24, 25, 26, 27, 28, 29] (by decide +kernel) (by decide +kernel)
set_option maxRecDepth 20000 in
theorem gX7_whyNotWithdraw_X7_isWithdrawn : GoodIn wsX7_whyNotWithdraw (wsV RX7 61 RX7 yX7_isWithdrawn wsX7_isWithdrawn) := goodIn_app (goodIn_of _ (by decide +kernel)) ggX7_whyNotWithdraw_X7_isWithdrawn
theorem dX7_whyNotWithdraw_0 : decode cX7_whyNotWithdraw 0 = .ok (.aload_n 0, 1) := by decide +kernel
theorem dX7_whyNotWithdraw_1 : decode cX7_whyNotWithdraw 1 = .ok (.iload_n 1, 1) := by decide +kernel
theorem dX7_whyNotWithdraw_2 : decode cX7_whyNotWithdraw 2 = .ok (.invokevirtual 96, 3) := by decide +kernel
theorem dX7_whyNotWithdraw_5 : decode cX7_whyNotWithdraw 5 = .ok (.ifCond .ne 7, 3) := by decide +kernel
theorem dX7_whyNotWithdraw_8 : decode cX7_whyNotWithdraw 8 = .ok (.iconst (-1), 1) := by decide +kernel
theorem dX7_whyNotWithdraw_9 : decode cX7_whyNotWithdraw 9 = .ok (.goto 17, 3) := by decide +kernel
theorem dX7_whyNotWithdraw_12 : decode cX7_whyNotWithdraw 12 = .ok (.aload_n 0, 1) := by decide +kernel
theorem dX7_whyNotWithdraw_13 : decode cX7_whyNotWithdraw 13 = .ok (.iload_n 1, 1) := by decide +kernel
theorem dX7_whyNotWithdraw_14 : decode cX7_whyNotWithdraw 14 = .ok (.invokevirtual 61, 3) := by decide +kernel
theorem dX7_whyNotWithdraw_17 : decode cX7_whyNotWithdraw 17 = .ok (.ifCond .eq 8, 3) := by decide +kernel
theorem dX7_whyNotWithdraw_20 : decode cX7_whyNotWithdraw 20 = .ok (.bipush (-5), 2) := by decide +kernel
theorem dX7_whyNotWithdraw_22 : decode cX7_whyNotWithdraw 22 = .ok (.goto 4, 3) := by decide +kernel
theorem dX7_whyNotWithdraw_25 : decode cX7_whyNotWithdraw 25 = .ok (.iconst 0, 1) := by decide +kernel
theorem dX7_whyNotWithdraw_26 : decode cX7_whyNotWithdraw 26 = .ok (.ireturn, 1) := by decide +kernel
set_option maxRecDepth 20000 in
theorem ggX7_withdraw_X7_whyNotWithdraw : GoodIn wsX7_withdraw wsX7_whyNotWithdraw := goodIn_r _ [5, 6, 7, 8, 4, 9, 10, 11, 12, 13, 14, 15, 16, 17, 18, 62, 63, 64, 65, 66, 67, 68, 69, 70, 71, 72, 73, 74, 75, 76] (by decide +kernel) (by decide +kernel)
set_option maxRecDepth 20000 in
theorem gX7_withdraw_X7_whyNotWithdraw : GoodIn wsX7_withdraw (wsV RX7 102 RX7 yX7_whyNotWithdraw wsX7_whyNotWithdraw) := goodIn_app (goodIn_of _ (by decide +kernel)) ggX7_withdraw_X7_whyNotWithdraw
set_option maxRecDepth 20000 in
theorem ggX7_withdraw_X7_record : GoodIn wsX7_withdraw wsX7_record := goodIn_r _ [22, 23, 24, 10, 62, 63, 64, 65, 66, 67, 68, 69, 70, 71, 72, 73, 74, 75, 76] (by decide +kernel) (by decide +kernel)
set_option maxRecDepth 20000 in
theorem gX7_withdraw_X7_record : GoodIn wsX7_withdraw (wsV RX7 54 RX7 yX7_record wsX7_record) := goodIn_app (goodIn_of _ (by decide +kernel)) ggX7_withdraw_X7_record
set_option maxRecDepth 20000 in
theorem ggX7_withdraw_X7_lay : GoodIn wsX7_withdraw wsX7_lay := goodIn_r _ [28, 10, 62, 63, 64, 65, 66, 67, 68, 69, 70, 71, 72, 73, 74, 75, 76] (by decide +kernel) (by decide +kernel)
set_option maxRecDepth 20000 in
theorem gX7_withdraw_X7_lay : GoodIn wsX7_withdraw (wsV RX7 81 RX7 yX7_lay wsX7_lay) := goodIn_app (goodIn_of _ (by decide +kernel)) ggX7_withdraw_X7_lay
set_option maxRecDepth 20000 in
theorem ggX7_withdraw_X7_look : GoodIn wsX7_withdraw wsX7_look := goodIn_r _ [32, 33, 34, 35, 4, 36, 37, 10, 38, 15, 16, 17, 18, 11, 12, 13, 14, 39, 40, 41, 42, 43, 44, 45, 46, 47, 48, 49, 50, 51, 52, 53, 54, 62, 63, 64, 65, 66, 67, 68, 69, 70, 71, 72, 73, 74, 75, 76] (by decide +kernel) (by decide +kernel)
set_option maxRecDepth 20000 in
theorem gX7_withdraw_X7_look : GoodIn wsX7_withdraw (wsV RX7 106 RX7 yX7_look wsX7_look) := goodIn_app (goodIn_of _ (by decide +kernel)) ggX7_withdraw_X7_look
set_option maxRecDepth 20000 in
theorem ggX7_withdraw_X7_standing : GoodIn wsX7_withdraw wsX7_standing := goodIn_r _ [58, 10, 38, 62, 63, 64, 65, 66, 67, 68, 69, 70, 71, 72, 73, 74, 75, 76] (by decide +kernel) (by decide +kernel)
set_option maxRecDepth 20000 in
theorem gX7_withdraw_X7_standing : GoodIn wsX7_withdraw (wsV RX7 109 RX7 yX7_standing wsX7_standing) := goodIn_app (goodIn_of _ (by decide +kernel)) ggX7_withdraw_X7_standing
set_option maxRecDepth 20000 in
theorem ggX7_withdraw_X7_bits : GoodIn wsX7_withdraw wsX7_bits := goodIn_r _ [61] (by decide +kernel) (by decide +kernel)
set_option maxRecDepth 20000 in
theorem gX7_withdraw_X7_bits : GoodIn wsX7_withdraw (va_wsS RX7 113 yX7_bits wsX7_bits) := goodIn_app (goodIn_of _ (by decide +kernel)) ggX7_withdraw_X7_bits
theorem dX7_withdraw_0 : decode cX7_withdraw 0 = .ok (.aload_n 0, 1) := by decide +kernel
theorem dX7_withdraw_1 : decode cX7_withdraw 1 = .ok (.iload_n 1, 1) := by decide +kernel
theorem dX7_withdraw_2 : decode cX7_withdraw 2 = .ok (.invokevirtual 102, 3) := by decide +kernel
theorem dX7_withdraw_5 : decode cX7_withdraw 5 = .ok (.istore_n 2, 1) := by decide +kernel
theorem dX7_withdraw_6 : decode cX7_withdraw 6 = .ok (.iload_n 2, 1) := by decide +kernel
theorem dX7_withdraw_7 : decode cX7_withdraw 7 = .ok (.ifCond .ge 5, 3) := by decide +kernel
theorem dX7_withdraw_10 : decode cX7_withdraw 10 = .ok (.iload_n 2, 1) := by decide +kernel
theorem dX7_withdraw_11 : decode cX7_withdraw 11 = .ok (.ireturn, 1) := by decide +kernel
theorem dX7_withdraw_12 : decode cX7_withdraw 12 = .ok (.aload_n 0, 1) := by decide +kernel
theorem dX7_withdraw_13 : decode cX7_withdraw 13 = .ok (.invokevirtual 54, 3) := by decide +kernel
theorem dX7_withdraw_16 : decode cX7_withdraw 16 = .ok (.aload_n 0, 1) := by decide +kernel
theorem dX7_withdraw_17 : decode cX7_withdraw 17 = .ok (.iload_n 1, 1) := by decide +kernel
theorem dX7_withdraw_18 : decode cX7_withdraw 18 = .ok (.bipush 6, 2) := by decide +kernel
theorem dX7_withdraw_20 : decode cX7_withdraw 20 = .ok (.iconst 1, 1) := by decide +kernel
theorem dX7_withdraw_21 : decode cX7_withdraw 21 = .ok (.invokevirtual 81, 3) := by decide +kernel
theorem dX7_withdraw_24 : decode cX7_withdraw 24 = .ok (.aload_n 0, 1) := by decide +kernel
theorem dX7_withdraw_25 : decode cX7_withdraw 25 = .ok (.invokevirtual 106, 3) := by decide +kernel
theorem dX7_withdraw_28 : decode cX7_withdraw 28 = .ok (.aload_n 0, 1) := by decide +kernel
theorem dX7_withdraw_29 : decode cX7_withdraw 29 = .ok (.invokevirtual 109, 3) := by decide +kernel
theorem dX7_withdraw_32 : decode cX7_withdraw 32 = .ok (.invokestatic 113, 3) := by decide +kernel
theorem dX7_withdraw_35 : decode cX7_withdraw 35 = .ok (.ireturn, 1) := by decide +kernel
set_option maxRecDepth 20000 in
theorem ggX7_whyNotRenew_X7_isPoint : GoodIn wsX7_whyNotRenew wsX7_isPoint := goodIn_r _ [5, 6, 19, 20, 21, 22, 23, 24, 25, 26, 27, 28, 29, 30, 31, 32, 33] (by decide +kernel) (by decide +kernel)
set_option maxRecDepth 20000 in
theorem gX7_whyNotRenew_X7_isPoint : GoodIn wsX7_whyNotRenew (wsV RX7 96 RX7 yX7_isPoint wsX7_isPoint) := goodIn_app (goodIn_of _ (by decide +kernel)) ggX7_whyNotRenew_X7_isPoint
set_option maxRecDepth 20000 in
theorem ggX7_whyNotRenew_X7_isClaim : GoodIn wsX7_whyNotRenew wsX7_isClaim := goodIn_r _ [10, 11, 12, 13, 4, 14, 6, 19, 20, 21, 22, 23, 24, 25, 26, 27, 28, 29, 30, 31, 32, 33] (by decide +kernel) (by decide +kernel)
set_option maxRecDepth 20000 in
theorem gX7_whyNotRenew_X7_isClaim : GoodIn wsX7_whyNotRenew (wsV RX7 57 RX7 yX7_isClaim wsX7_isClaim) := goodIn_app (goodIn_of _ (by decide +kernel)) ggX7_whyNotRenew_X7_isClaim
set_option maxRecDepth 20000 in
theorem ggX7_whyNotRenew_X7_isWithdrawn : GoodIn wsX7_whyNotRenew wsX7_isWithdrawn := goodIn_r _ [18, 11, 12, 13, 4, 14, 6, 19, 20, 21, 22, 23, 24, 25, 26, 27, 28, 29, 30, 31, 32, 33] (by decide +kernel) (by decide +kernel)
set_option maxRecDepth 20000 in
theorem gX7_whyNotRenew_X7_isWithdrawn : GoodIn wsX7_whyNotRenew (wsV RX7 61 RX7 yX7_isWithdrawn wsX7_isWithdrawn) := goodIn_app (goodIn_of _ (by decide +kernel)) ggX7_whyNotRenew_X7_isWithdrawn
theorem dX7_whyNotRenew_0 : decode cX7_whyNotRenew 0 = .ok (.aload_n 0, 1) := by decide +kernel
theorem dX7_whyNotRenew_1 : decode cX7_whyNotRenew 1 = .ok (.iload_n 1, 1) := by decide +kernel
theorem dX7_whyNotRenew_2 : decode cX7_whyNotRenew 2 = .ok (.invokevirtual 96, 3) := by decide +kernel
theorem dX7_whyNotRenew_5 : decode cX7_whyNotRenew 5 = .ok (.ifCond .ne 7, 3) := by decide +kernel
theorem dX7_whyNotRenew_8 : decode cX7_whyNotRenew 8 = .ok (.iconst (-1), 1) := by decide +kernel
theorem dX7_whyNotRenew_9 : decode cX7_whyNotRenew 9 = .ok (.goto 25, 3) := by decide +kernel
theorem dX7_whyNotRenew_12 : decode cX7_whyNotRenew 12 = .ok (.aload_n 0, 1) := by decide +kernel
theorem dX7_whyNotRenew_13 : decode cX7_whyNotRenew 13 = .ok (.iload_n 1, 1) := by decide +kernel
theorem dX7_whyNotRenew_14 : decode cX7_whyNotRenew 14 = .ok (.invokevirtual 57, 3) := by decide +kernel
theorem dX7_whyNotRenew_17 : decode cX7_whyNotRenew 17 = .ok (.ifCond .ne 11, 3) := by decide +kernel
theorem dX7_whyNotRenew_20 : decode cX7_whyNotRenew 20 = .ok (.aload_n 0, 1) := by decide +kernel
theorem dX7_whyNotRenew_21 : decode cX7_whyNotRenew 21 = .ok (.iload_n 1, 1) := by decide +kernel
theorem dX7_whyNotRenew_22 : decode cX7_whyNotRenew 22 = .ok (.invokevirtual 61, 3) := by decide +kernel
theorem dX7_whyNotRenew_25 : decode cX7_whyNotRenew 25 = .ok (.ifCond .eq 8, 3) := by decide +kernel
theorem dX7_whyNotRenew_28 : decode cX7_whyNotRenew 28 = .ok (.bipush (-5), 2) := by decide +kernel
theorem dX7_whyNotRenew_30 : decode cX7_whyNotRenew 30 = .ok (.goto 4, 3) := by decide +kernel
theorem dX7_whyNotRenew_33 : decode cX7_whyNotRenew 33 = .ok (.iconst 0, 1) := by decide +kernel
theorem dX7_whyNotRenew_34 : decode cX7_whyNotRenew 34 = .ok (.ireturn, 1) := by decide +kernel
set_option maxRecDepth 20000 in
theorem ggX7_renew_X7_whyNotRenew : GoodIn wsX7_renew wsX7_whyNotRenew := goodIn_r _ [6, 7, 8, 9, 5, 10, 1, 11, 12, 13, 14, 15, 16, 17, 18, 19, 20, 21, 22, 33, 34, 35, 36, 37, 38, 39, 40, 41, 42, 43, 44, 45, 46, 47] (by decide +kernel) (by decide +kernel)
set_option maxRecDepth 20000 in
theorem gX7_renew_X7_whyNotRenew : GoodIn wsX7_renew (wsV RX7 116 RX7 yX7_whyNotRenew wsX7_whyNotRenew) := goodIn_app (goodIn_of _ (by decide +kernel)) ggX7_renew_X7_whyNotRenew
set_option maxRecDepth 20000 in
theorem ggX7_renew_X7_record : GoodIn wsX7_renew wsX7_record := goodIn_r _ [26, 27, 28, 1, 33, 34, 35, 36, 37, 38, 39, 40, 41, 42, 43, 44, 45, 46, 47] (by decide +kernel) (by decide +kernel)
set_option maxRecDepth 20000 in
theorem gX7_renew_X7_record : GoodIn wsX7_renew (wsV RX7 54 RX7 yX7_record wsX7_record) := goodIn_app (goodIn_of _ (by decide +kernel)) ggX7_renew_X7_record
set_option maxRecDepth 20000 in
theorem ggX7_renew_X7_its : GoodIn wsX7_renew wsX7_its := goodIn_r _ [18, 1, 33, 34, 35, 36, 37, 38, 39, 40, 41, 42, 43, 44, 45, 46, 47] (by decide +kernel) (by decide +kernel)
set_option maxRecDepth 20000 in
theorem gX7_renew_X7_its : GoodIn wsX7_renew (wsV RX7 42 RX7 yX7_its wsX7_its) := goodIn_app (goodIn_of _ (by decide +kernel)) ggX7_renew_X7_its
set_option maxRecDepth 20000 in
theorem ggX7_renew_X7_lay : GoodIn wsX7_renew wsX7_lay := goodIn_r _ [32, 1, 33, 34, 35, 36, 37, 38, 39, 40, 41, 42, 43, 44, 45, 46, 47] (by decide +kernel) (by decide +kernel)
set_option maxRecDepth 20000 in
theorem gX7_renew_X7_lay : GoodIn wsX7_renew (wsV RX7 81 RX7 yX7_lay wsX7_lay) := goodIn_app (goodIn_of _ (by decide +kernel)) ggX7_renew_X7_lay
theorem dX7_renew_0 : decode cX7_renew 0 = .ok (.aload_n 0, 1) := by decide +kernel
theorem dX7_renew_1 : decode cX7_renew 1 = .ok (.iload_n 1, 1) := by decide +kernel
theorem dX7_renew_2 : decode cX7_renew 2 = .ok (.invokevirtual 116, 3) := by decide +kernel
theorem dX7_renew_5 : decode cX7_renew 5 = .ok (.istore_n 2, 1) := by decide +kernel
theorem dX7_renew_6 : decode cX7_renew 6 = .ok (.iload_n 2, 1) := by decide +kernel
theorem dX7_renew_7 : decode cX7_renew 7 = .ok (.ifCond .ge 5, 3) := by decide +kernel
theorem dX7_renew_10 : decode cX7_renew 10 = .ok (.iload_n 2, 1) := by decide +kernel
theorem dX7_renew_11 : decode cX7_renew 11 = .ok (.ireturn, 1) := by decide +kernel
theorem dX7_renew_12 : decode cX7_renew 12 = .ok (.aload_n 0, 1) := by decide +kernel
theorem dX7_renew_13 : decode cX7_renew 13 = .ok (.invokevirtual 54, 3) := by decide +kernel
theorem dX7_renew_16 : decode cX7_renew 16 = .ok (.aload_n 0, 1) := by decide +kernel
theorem dX7_renew_17 : decode cX7_renew 17 = .ok (.getfield 7, 3) := by decide +kernel
theorem dX7_renew_20 : decode cX7_renew 20 = .ok (.iconst 2, 1) := by decide +kernel
theorem dX7_renew_21 : decode cX7_renew 21 = .ok (.iaload, 1) := by decide +kernel
theorem dX7_renew_22 : decode cX7_renew 22 = .ok (.aload_n 0, 1) := by decide +kernel
theorem dX7_renew_23 : decode cX7_renew 23 = .ok (.iload_n 1, 1) := by decide +kernel
theorem dX7_renew_24 : decode cX7_renew 24 = .ok (.iconst 3, 1) := by decide +kernel
theorem dX7_renew_25 : decode cX7_renew 25 = .ok (.invokevirtual 42, 3) := by decide +kernel
theorem dX7_renew_28 : decode cX7_renew 28 = .ok (.isub, 1) := by decide +kernel
theorem dX7_renew_29 : decode cX7_renew 29 = .ok (.istore_n 3, 1) := by decide +kernel
theorem dX7_renew_30 : decode cX7_renew 30 = .ok (.aload_n 0, 1) := by decide +kernel
theorem dX7_renew_31 : decode cX7_renew 31 = .ok (.iload_n 1, 1) := by decide +kernel
theorem dX7_renew_32 : decode cX7_renew 32 = .ok (.iconst 3, 1) := by decide +kernel
theorem dX7_renew_33 : decode cX7_renew 33 = .ok (.aload_n 0, 1) := by decide +kernel
theorem dX7_renew_34 : decode cX7_renew 34 = .ok (.getfield 7, 3) := by decide +kernel
theorem dX7_renew_37 : decode cX7_renew 37 = .ok (.iconst 2, 1) := by decide +kernel
theorem dX7_renew_38 : decode cX7_renew 38 = .ok (.iaload, 1) := by decide +kernel
theorem dX7_renew_39 : decode cX7_renew 39 = .ok (.invokevirtual 81, 3) := by decide +kernel
theorem dX7_renew_42 : decode cX7_renew 42 = .ok (.iload_n 3, 1) := by decide +kernel
theorem dX7_renew_43 : decode cX7_renew 43 = .ok (.ireturn, 1) := by decide +kernel
theorem dX7_overruleIt_0 : decode cX7_overruleIt 0 = .ok (.aload_n 0, 1) := by decide +kernel
theorem dX7_overruleIt_1 : decode cX7_overruleIt 1 = .ok (.getfield 7, 3) := by decide +kernel
theorem dX7_overruleIt_4 : decode cX7_overruleIt 4 = .ok (.iconst 4, 1) := by decide +kernel
theorem dX7_overruleIt_5 : decode cX7_overruleIt 5 = .ok (.dup2, 1) := by decide +kernel
theorem dX7_overruleIt_6 : decode cX7_overruleIt 6 = .ok (.iaload, 1) := by decide +kernel
theorem dX7_overruleIt_7 : decode cX7_overruleIt 7 = .ok (.iconst 1, 1) := by decide +kernel
theorem dX7_overruleIt_8 : decode cX7_overruleIt 8 = .ok (.iload_n 1, 1) := by decide +kernel
theorem dX7_overruleIt_9 : decode cX7_overruleIt 9 = .ok (.ishl, 1) := by decide +kernel
theorem dX7_overruleIt_10 : decode cX7_overruleIt 10 = .ok (.ixor, 1) := by decide +kernel
theorem dX7_overruleIt_11 : decode cX7_overruleIt 11 = .ok (.iastore, 1) := by decide +kernel
theorem dX7_overruleIt_12 : decode cX7_overruleIt 12 = .ok (.aload_n 0, 1) := by decide +kernel
theorem dX7_overruleIt_13 : decode cX7_overruleIt 13 = .ok (.getfield 7, 3) := by decide +kernel
theorem dX7_overruleIt_16 : decode cX7_overruleIt 16 = .ok (.iconst 4, 1) := by decide +kernel
theorem dX7_overruleIt_17 : decode cX7_overruleIt 17 = .ok (.iaload, 1) := by decide +kernel
theorem dX7_overruleIt_18 : decode cX7_overruleIt 18 = .ok (.iload_n 1, 1) := by decide +kernel
theorem dX7_overruleIt_19 : decode cX7_overruleIt 19 = .ok (.ishr, 1) := by decide +kernel
theorem dX7_overruleIt_20 : decode cX7_overruleIt 20 = .ok (.iconst 1, 1) := by decide +kernel
theorem dX7_overruleIt_21 : decode cX7_overruleIt 21 = .ok (.iand, 1) := by decide +kernel
theorem dX7_overruleIt_22 : decode cX7_overruleIt 22 = .ok (.ireturn, 1) := by decide +kernel
set_option maxRecDepth 20000 in
theorem ggX7_overrule_X7_in : GoodIn wsX7_overrule wsX7_in := goodIn_r _ [4] (by decide +kernel) (by decide +kernel)
set_option maxRecDepth 20000 in
theorem gX7_overrule_X7_in : GoodIn wsX7_overrule (va_wsS RX7 50 yX7_in wsX7_in) := goodIn_app (goodIn_of _ (by decide +kernel)) ggX7_overrule_X7_in
set_option maxRecDepth 20000 in
theorem ggX7_overrule_X7_record : GoodIn wsX7_overrule wsX7_record := goodIn_r _ [8, 9, 10, 11, 16, 17, 18, 19, 20, 21, 22, 23, 24, 25, 26, 27, 28, 29, 30] (by decide +kernel) (by decide +kernel)
set_option maxRecDepth 20000 in
theorem gX7_overrule_X7_record : GoodIn wsX7_overrule (wsV RX7 54 RX7 yX7_record wsX7_record) := goodIn_app (goodIn_of _ (by decide +kernel)) ggX7_overrule_X7_record
set_option maxRecDepth 20000 in
theorem ggX7_overrule_X7_overruleIt : GoodIn wsX7_overrule wsX7_overruleIt := goodIn_r _ [15, 11, 16, 17, 18, 19, 20, 21, 22, 23, 24, 25, 26, 27, 28, 29, 30] (by decide +kernel) (by decide +kernel)
set_option maxRecDepth 20000 in
theorem gX7_overrule_X7_overruleIt : GoodIn wsX7_overrule (wsV RX7 119 RX7 yX7_overruleIt wsX7_overruleIt) := goodIn_app (goodIn_of _ (by decide +kernel)) ggX7_overrule_X7_overruleIt
theorem dX7_overrule_0 : decode cX7_overrule 0 = .ok (.iload_n 1, 1) := by decide +kernel
theorem dX7_overrule_1 : decode cX7_overrule 1 = .ok (.iconst 0, 1) := by decide +kernel
theorem dX7_overrule_2 : decode cX7_overrule 2 = .ok (.bipush 9, 2) := by decide +kernel
theorem dX7_overrule_4 : decode cX7_overrule 4 = .ok (.invokestatic 50, 3) := by decide +kernel
theorem dX7_overrule_7 : decode cX7_overrule 7 = .ok (.ifCond .ne 5, 3) := by decide +kernel
theorem dX7_overrule_10 : decode cX7_overrule 10 = .ok (.iconst (-1), 1) := by decide +kernel
theorem dX7_overrule_11 : decode cX7_overrule 11 = .ok (.ireturn, 1) := by decide +kernel
theorem dX7_overrule_12 : decode cX7_overrule 12 = .ok (.aload_n 0, 1) := by decide +kernel
theorem dX7_overrule_13 : decode cX7_overrule 13 = .ok (.invokevirtual 54, 3) := by decide +kernel
theorem dX7_overrule_16 : decode cX7_overrule 16 = .ok (.aload_n 0, 1) := by decide +kernel
theorem dX7_overrule_17 : decode cX7_overrule 17 = .ok (.iload_n 1, 1) := by decide +kernel
theorem dX7_overrule_18 : decode cX7_overrule 18 = .ok (.invokevirtual 119, 3) := by decide +kernel
theorem dX7_overrule_21 : decode cX7_overrule 21 = .ok (.ireturn, 1) := by decide +kernel
set_option maxRecDepth 20000 in
theorem ggX7_whyNotPass_X7_in : GoodIn wsX7_whyNotPass wsX7_in := goodIn_r _ [5] (by decide +kernel) (by decide +kernel)
set_option maxRecDepth 20000 in
theorem gX7_whyNotPass_X7_in : GoodIn wsX7_whyNotPass (va_wsS RX7 50 yX7_in wsX7_in) := goodIn_app (goodIn_of _ (by decide +kernel)) ggX7_whyNotPass_X7_in
theorem dX7_whyNotPass_0 : decode cX7_whyNotPass 0 = .ok (.iload_n 1, 1) := by decide +kernel
theorem dX7_whyNotPass_1 : decode cX7_whyNotPass 1 = .ok (.iconst 1, 1) := by decide +kernel
theorem dX7_whyNotPass_2 : decode cX7_whyNotPass 2 = .ok (.bipush 99, 2) := by decide +kernel
theorem dX7_whyNotPass_4 : decode cX7_whyNotPass 4 = .ok (.invokestatic 50, 3) := by decide +kernel
theorem dX7_whyNotPass_7 : decode cX7_whyNotPass 7 = .ok (.ifCond .ne 8, 3) := by decide +kernel
theorem dX7_whyNotPass_10 : decode cX7_whyNotPass 10 = .ok (.bipush (-2), 2) := by decide +kernel
theorem dX7_whyNotPass_12 : decode cX7_whyNotPass 12 = .ok (.goto 23, 3) := by decide +kernel
theorem dX7_whyNotPass_15 : decode cX7_whyNotPass 15 = .ok (.aload_n 0, 1) := by decide +kernel
theorem dX7_whyNotPass_16 : decode cX7_whyNotPass 16 = .ok (.getfield 7, 3) := by decide +kernel
theorem dX7_whyNotPass_19 : decode cX7_whyNotPass 19 = .ok (.iconst 2, 1) := by decide +kernel
theorem dX7_whyNotPass_20 : decode cX7_whyNotPass 20 = .ok (.iaload, 1) := by decide +kernel
theorem dX7_whyNotPass_21 : decode cX7_whyNotPass 21 = .ok (.iload_n 1, 1) := by decide +kernel
theorem dX7_whyNotPass_22 : decode cX7_whyNotPass 22 = .ok (.iadd, 1) := by decide +kernel
theorem dX7_whyNotPass_23 : decode cX7_whyNotPass 23 = .ok (.sipush 999, 3) := by decide +kernel
theorem dX7_whyNotPass_26 : decode cX7_whyNotPass 26 = .ok (.if_icmp .le 8, 3) := by decide +kernel
theorem dX7_whyNotPass_29 : decode cX7_whyNotPass 29 = .ok (.bipush (-5), 2) := by decide +kernel
theorem dX7_whyNotPass_31 : decode cX7_whyNotPass 31 = .ok (.goto 4, 3) := by decide +kernel
theorem dX7_whyNotPass_34 : decode cX7_whyNotPass 34 = .ok (.iconst 0, 1) := by decide +kernel
theorem dX7_whyNotPass_35 : decode cX7_whyNotPass 35 = .ok (.ireturn, 1) := by decide +kernel
set_option maxRecDepth 20000 in
theorem ggX7_pass_X7_whyNotPass : GoodIn wsX7_pass wsX7_whyNotPass := goodIn_r _ [6, 1, 7, 8, 5, 9, 57, 58, 59, 60, 61, 62, 63, 64, 65, 66, 67, 68, 69, 70, 71] (by decide +kernel) (by decide +kernel)
set_option maxRecDepth 20000 in
theorem gX7_pass_X7_whyNotPass : GoodIn wsX7_pass (wsV RX7 122 RX7 yX7_whyNotPass wsX7_whyNotPass) := goodIn_app (goodIn_of _ (by decide +kernel)) ggX7_pass_X7_whyNotPass
set_option maxRecDepth 20000 in
theorem ggX7_pass_X7_record : GoodIn wsX7_pass wsX7_record := goodIn_r _ [13, 14, 15, 1, 57, 58, 59, 60, 61, 62, 63, 64, 65, 66, 67, 68, 69, 70, 71] (by decide +kernel) (by decide +kernel)
set_option maxRecDepth 20000 in
theorem gX7_pass_X7_record : GoodIn wsX7_pass (wsV RX7 54 RX7 yX7_record wsX7_record) := goodIn_app (goodIn_of _ (by decide +kernel)) ggX7_pass_X7_record
set_option maxRecDepth 20000 in
theorem ggX7_pass_X7_look : GoodIn wsX7_pass wsX7_look := goodIn_r _ [19, 20, 21, 22, 5, 23, 24, 1, 25, 26, 27, 28, 29, 30, 31, 32, 33, 34, 35, 36, 37, 38, 39, 40, 41, 42, 43, 44, 45, 46, 47, 48, 49, 57, 58, 59, 60, 61, 62, 63, 64, 65, 66, 67, 68, 69, 70, 71] (by decide +kernel) (by decide +kernel)
set_option maxRecDepth 20000 in
theorem gX7_pass_X7_look : GoodIn wsX7_pass (wsV RX7 106 RX7 yX7_look wsX7_look) := goodIn_app (goodIn_of _ (by decide +kernel)) ggX7_pass_X7_look
set_option maxRecDepth 20000 in
theorem ggX7_pass_X7_standing : GoodIn wsX7_pass wsX7_standing := goodIn_r _ [53, 1, 25, 57, 58, 59, 60, 61, 62, 63, 64, 65, 66, 67, 68, 69, 70, 71] (by decide +kernel) (by decide +kernel)
set_option maxRecDepth 20000 in
theorem gX7_pass_X7_standing : GoodIn wsX7_pass (wsV RX7 109 RX7 yX7_standing wsX7_standing) := goodIn_app (goodIn_of _ (by decide +kernel)) ggX7_pass_X7_standing
set_option maxRecDepth 20000 in
theorem ggX7_pass_X7_bits : GoodIn wsX7_pass wsX7_bits := goodIn_r _ [56] (by decide +kernel) (by decide +kernel)
set_option maxRecDepth 20000 in
theorem gX7_pass_X7_bits : GoodIn wsX7_pass (va_wsS RX7 113 yX7_bits wsX7_bits) := goodIn_app (goodIn_of _ (by decide +kernel)) ggX7_pass_X7_bits
theorem dX7_pass_0 : decode cX7_pass 0 = .ok (.aload_n 0, 1) := by decide +kernel
theorem dX7_pass_1 : decode cX7_pass 1 = .ok (.iload_n 1, 1) := by decide +kernel
theorem dX7_pass_2 : decode cX7_pass 2 = .ok (.invokevirtual 122, 3) := by decide +kernel
theorem dX7_pass_5 : decode cX7_pass 5 = .ok (.istore_n 2, 1) := by decide +kernel
theorem dX7_pass_6 : decode cX7_pass 6 = .ok (.iload_n 2, 1) := by decide +kernel
theorem dX7_pass_7 : decode cX7_pass 7 = .ok (.ifCond .ge 5, 3) := by decide +kernel
theorem dX7_pass_10 : decode cX7_pass 10 = .ok (.iload_n 2, 1) := by decide +kernel
theorem dX7_pass_11 : decode cX7_pass 11 = .ok (.ireturn, 1) := by decide +kernel
theorem dX7_pass_12 : decode cX7_pass 12 = .ok (.aload_n 0, 1) := by decide +kernel
theorem dX7_pass_13 : decode cX7_pass 13 = .ok (.invokevirtual 54, 3) := by decide +kernel
theorem dX7_pass_16 : decode cX7_pass 16 = .ok (.aload_n 0, 1) := by decide +kernel
theorem dX7_pass_17 : decode cX7_pass 17 = .ok (.getfield 7, 3) := by decide +kernel
theorem dX7_pass_20 : decode cX7_pass 20 = .ok (.iconst 2, 1) := by decide +kernel
theorem dX7_pass_21 : decode cX7_pass 21 = .ok (.dup2, 1) := by decide +kernel
theorem dX7_pass_22 : decode cX7_pass 22 = .ok (.iaload, 1) := by decide +kernel
theorem dX7_pass_23 : decode cX7_pass 23 = .ok (.iload_n 1, 1) := by decide +kernel
theorem dX7_pass_24 : decode cX7_pass 24 = .ok (.iadd, 1) := by decide +kernel
theorem dX7_pass_25 : decode cX7_pass 25 = .ok (.iastore, 1) := by decide +kernel
theorem dX7_pass_26 : decode cX7_pass 26 = .ok (.aload_n 0, 1) := by decide +kernel
theorem dX7_pass_27 : decode cX7_pass 27 = .ok (.invokevirtual 106, 3) := by decide +kernel
theorem dX7_pass_30 : decode cX7_pass 30 = .ok (.aload_n 0, 1) := by decide +kernel
theorem dX7_pass_31 : decode cX7_pass 31 = .ok (.invokevirtual 109, 3) := by decide +kernel
theorem dX7_pass_34 : decode cX7_pass 34 = .ok (.invokestatic 113, 3) := by decide +kernel
theorem dX7_pass_37 : decode cX7_pass 37 = .ok (.ireturn, 1) := by decide +kernel
set_option maxRecDepth 20000 in
theorem ggX7_lowestThatStands_X7_its : GoodIn wsX7_lowestThatStands wsX7_its := goodIn_r _ [7, 1, 8, 9, 10, 11, 12, 13, 14, 15, 16, 17, 18, 19, 20, 21, 22] (by decide +kernel) (by decide +kernel)
set_option maxRecDepth 20000 in
theorem gX7_lowestThatStands_X7_its : GoodIn wsX7_lowestThatStands (wsV RX7 42 RX7 yX7_its wsX7_its) := goodIn_app (goodIn_of _ (by decide +kernel)) ggX7_lowestThatStands_X7_its
theorem dX7_lowestThatStands_0 : decode cX7_lowestThatStands 0 = .ok (.iload_n 1, 1) := by decide +kernel
theorem dX7_lowestThatStands_1 : decode cX7_lowestThatStands 1 = .ok (.iconst 1, 1) := by decide +kernel
theorem dX7_lowestThatStands_2 : decode cX7_lowestThatStands 2 = .ok (.iadd, 1) := by decide +kernel
theorem dX7_lowestThatStands_3 : decode cX7_lowestThatStands 3 = .ok (.istore_n 2, 1) := by decide +kernel
theorem dX7_lowestThatStands_4 : decode cX7_lowestThatStands 4 = .ok (.iload_n 2, 1) := by decide +kernel
theorem dX7_lowestThatStands_5 : decode cX7_lowestThatStands 5 = .ok (.aload_n 0, 1) := by decide +kernel
theorem dX7_lowestThatStands_6 : decode cX7_lowestThatStands 6 = .ok (.getfield 7, 3) := by decide +kernel
theorem dX7_lowestThatStands_9 : decode cX7_lowestThatStands 9 = .ok (.iconst 3, 1) := by decide +kernel
theorem dX7_lowestThatStands_10 : decode cX7_lowestThatStands 10 = .ok (.iaload, 1) := by decide +kernel
theorem dX7_lowestThatStands_11 : decode cX7_lowestThatStands 11 = .ok (.if_icmp .ge 30, 3) := by decide +kernel
theorem dX7_lowestThatStands_14 : decode cX7_lowestThatStands 14 = .ok (.aload_n 0, 1) := by decide +kernel
theorem dX7_lowestThatStands_15 : decode cX7_lowestThatStands 15 = .ok (.iload_n 2, 1) := by decide +kernel
theorem dX7_lowestThatStands_16 : decode cX7_lowestThatStands 16 = .ok (.iconst 4, 1) := by decide +kernel
theorem dX7_lowestThatStands_17 : decode cX7_lowestThatStands 17 = .ok (.invokevirtual 42, 3) := by decide +kernel
theorem dX7_lowestThatStands_20 : decode cX7_lowestThatStands 20 = .ok (.iload_n 1, 1) := by decide +kernel
theorem dX7_lowestThatStands_21 : decode cX7_lowestThatStands 21 = .ok (.if_icmp .ne 14, 3) := by decide +kernel
theorem dX7_lowestThatStands_24 : decode cX7_lowestThatStands 24 = .ok (.aload_n 0, 1) := by decide +kernel
theorem dX7_lowestThatStands_25 : decode cX7_lowestThatStands 25 = .ok (.getfield 27, 3) := by decide +kernel
theorem dX7_lowestThatStands_28 : decode cX7_lowestThatStands 28 = .ok (.iload_n 2, 1) := by decide +kernel
theorem dX7_lowestThatStands_29 : decode cX7_lowestThatStands 29 = .ok (.iaload, 1) := by decide +kernel
theorem dX7_lowestThatStands_30 : decode cX7_lowestThatStands 30 = .ok (.ifCond .ne 5, 3) := by decide +kernel
theorem dX7_lowestThatStands_33 : decode cX7_lowestThatStands 33 = .ok (.iload_n 2, 1) := by decide +kernel
theorem dX7_lowestThatStands_34 : decode cX7_lowestThatStands 34 = .ok (.ireturn, 1) := by decide +kernel
theorem dX7_lowestThatStands_35 : decode cX7_lowestThatStands 35 = .ok (.iinc 2 1, 3) := by decide +kernel
theorem dX7_lowestThatStands_38 : decode cX7_lowestThatStands 38 = .ok (.goto (-34), 3) := by decide +kernel
theorem dX7_lowestThatStands_41 : decode cX7_lowestThatStands 41 = .ok (.bipush (-6), 2) := by decide +kernel
theorem dX7_lowestThatStands_43 : decode cX7_lowestThatStands 43 = .ok (.ireturn, 1) := by decide +kernel
set_option maxRecDepth 20000 in
theorem ggX7_depth_X7_isClaim : GoodIn wsX7_depth wsX7_isClaim := goodIn_r _ [5, 6, 7, 8, 4, 9, 10, 11, 12, 13, 14, 15, 16, 17, 18, 19, 20, 21, 22, 23, 24, 25] (by decide +kernel) (by decide +kernel)
set_option maxRecDepth 20000 in
theorem gX7_depth_X7_isClaim : GoodIn wsX7_depth (wsV RX7 57 RX7 yX7_isClaim wsX7_isClaim) := goodIn_app (goodIn_of _ (by decide +kernel)) ggX7_depth_X7_isClaim
set_option maxRecDepth 20000 in
theorem ggX7_depth_X7_its : GoodIn wsX7_depth wsX7_its := goodIn_r _ [9, 10, 11, 12, 13, 14, 15, 16, 17, 18, 19, 20, 21, 22, 23, 24, 25] (by decide +kernel) (by decide +kernel)
set_option maxRecDepth 20000 in
theorem gX7_depth_X7_its : GoodIn wsX7_depth (wsV RX7 42 RX7 yX7_its wsX7_its) := goodIn_app (goodIn_of _ (by decide +kernel)) ggX7_depth_X7_its
theorem dX7_depth_0 : decode cX7_depth 0 = .ok (.iconst 0, 1) := by decide +kernel
theorem dX7_depth_1 : decode cX7_depth 1 = .ok (.istore_n 2, 1) := by decide +kernel
theorem dX7_depth_2 : decode cX7_depth 2 = .ok (.iload_n 1, 1) := by decide +kernel
theorem dX7_depth_3 : decode cX7_depth 3 = .ok (.istore_n 3, 1) := by decide +kernel
theorem dX7_depth_4 : decode cX7_depth 4 = .ok (.aload_n 0, 1) := by decide +kernel
theorem dX7_depth_5 : decode cX7_depth 5 = .ok (.iload_n 3, 1) := by decide +kernel
theorem dX7_depth_6 : decode cX7_depth 6 = .ok (.invokevirtual 57, 3) := by decide +kernel
theorem dX7_depth_9 : decode cX7_depth 9 = .ok (.ifCond .ne 16, 3) := by decide +kernel
theorem dX7_depth_12 : decode cX7_depth 12 = .ok (.aload_n 0, 1) := by decide +kernel
theorem dX7_depth_13 : decode cX7_depth 13 = .ok (.iload_n 3, 1) := by decide +kernel
theorem dX7_depth_14 : decode cX7_depth 14 = .ok (.iconst 4, 1) := by decide +kernel
theorem dX7_depth_15 : decode cX7_depth 15 = .ok (.invokevirtual 42, 3) := by decide +kernel
theorem dX7_depth_18 : decode cX7_depth 18 = .ok (.istore_n 3, 1) := by decide +kernel
theorem dX7_depth_19 : decode cX7_depth 19 = .ok (.iinc 2 1, 3) := by decide +kernel
theorem dX7_depth_22 : decode cX7_depth 22 = .ok (.goto (-18), 3) := by decide +kernel
theorem dX7_depth_25 : decode cX7_depth 25 = .ok (.iload_n 2, 1) := by decide +kernel
theorem dX7_depth_26 : decode cX7_depth 26 = .ok (.ireturn, 1) := by decide +kernel
set_option maxRecDepth 20000 in
theorem ggX7_daysYet_X7_isClaim : GoodIn wsX7_daysYet wsX7_isClaim := goodIn_r _ [6, 7, 8, 9, 5, 10, 1, 15, 16, 17, 18, 19, 20, 21, 22, 23, 24, 25, 26, 27, 28, 29] (by decide +kernel) (by decide +kernel)
set_option maxRecDepth 20000 in
theorem gX7_daysYet_X7_isClaim : GoodIn wsX7_daysYet (wsV RX7 57 RX7 yX7_isClaim wsX7_isClaim) := goodIn_app (goodIn_of _ (by decide +kernel)) ggX7_daysYet_X7_isClaim
set_option maxRecDepth 20000 in
theorem ggX7_daysYet_X7_lapsed : GoodIn wsX7_daysYet wsX7_lapsed := goodIn_r _ [14, 1, 2, 3, 4, 5, 6, 7, 8, 9, 10, 15, 16, 17, 18, 19, 20, 21, 22, 23, 24, 25, 26, 27, 28, 29] (by decide +kernel) (by decide +kernel)
set_option maxRecDepth 20000 in
theorem gX7_daysYet_X7_lapsed : GoodIn wsX7_daysYet (wsV RX7 64 RX7 yX7_lapsed wsX7_lapsed) := goodIn_app (goodIn_of _ (by decide +kernel)) ggX7_daysYet_X7_lapsed
set_option maxRecDepth 20000 in
theorem ggX7_daysYet_X7_its : GoodIn wsX7_daysYet wsX7_its := goodIn_r _ [10, 1, 15, 16, 17, 18, 19, 20, 21, 22, 23, 24, 25, 26, 27, 28, 29] (by decide +kernel) (by decide +kernel)
set_option maxRecDepth 20000 in
theorem gX7_daysYet_X7_its : GoodIn wsX7_daysYet (wsV RX7 42 RX7 yX7_its wsX7_its) := goodIn_app (goodIn_of _ (by decide +kernel)) ggX7_daysYet_X7_its
theorem dX7_daysYet_0 : decode cX7_daysYet 0 = .ok (.aload_n 0, 1) := by decide +kernel
theorem dX7_daysYet_1 : decode cX7_daysYet 1 = .ok (.iload_n 1, 1) := by decide +kernel
theorem dX7_daysYet_2 : decode cX7_daysYet 2 = .ok (.invokevirtual 57, 3) := by decide +kernel
theorem dX7_daysYet_5 : decode cX7_daysYet 5 = .ok (.ifCond .ne 11, 3) := by decide +kernel
theorem dX7_daysYet_8 : decode cX7_daysYet 8 = .ok (.aload_n 0, 1) := by decide +kernel
theorem dX7_daysYet_9 : decode cX7_daysYet 9 = .ok (.iload_n 1, 1) := by decide +kernel
theorem dX7_daysYet_10 : decode cX7_daysYet 10 = .ok (.invokevirtual 64, 3) := by decide +kernel
theorem dX7_daysYet_13 : decode cX7_daysYet 13 = .ok (.ifCond .eq 8, 3) := by decide +kernel
theorem dX7_daysYet_16 : decode cX7_daysYet 16 = .ok (.bipush (-6), 2) := by decide +kernel
theorem dX7_daysYet_18 : decode cX7_daysYet 18 = .ok (.goto 23, 3) := by decide +kernel
theorem dX7_daysYet_21 : decode cX7_daysYet 21 = .ok (.aload_n 0, 1) := by decide +kernel
theorem dX7_daysYet_22 : decode cX7_daysYet 22 = .ok (.getfield 7, 3) := by decide +kernel
theorem dX7_daysYet_25 : decode cX7_daysYet 25 = .ok (.iconst 0, 1) := by decide +kernel
theorem dX7_daysYet_26 : decode cX7_daysYet 26 = .ok (.iaload, 1) := by decide +kernel
theorem dX7_daysYet_27 : decode cX7_daysYet 27 = .ok (.aload_n 0, 1) := by decide +kernel
theorem dX7_daysYet_28 : decode cX7_daysYet 28 = .ok (.getfield 7, 3) := by decide +kernel
theorem dX7_daysYet_31 : decode cX7_daysYet 31 = .ok (.iconst 2, 1) := by decide +kernel
theorem dX7_daysYet_32 : decode cX7_daysYet 32 = .ok (.iaload, 1) := by decide +kernel
theorem dX7_daysYet_33 : decode cX7_daysYet 33 = .ok (.aload_n 0, 1) := by decide +kernel
theorem dX7_daysYet_34 : decode cX7_daysYet 34 = .ok (.iload_n 1, 1) := by decide +kernel
theorem dX7_daysYet_35 : decode cX7_daysYet 35 = .ok (.iconst 3, 1) := by decide +kernel
theorem dX7_daysYet_36 : decode cX7_daysYet 36 = .ok (.invokevirtual 42, 3) := by decide +kernel
theorem dX7_daysYet_39 : decode cX7_daysYet 39 = .ok (.isub, 1) := by decide +kernel
theorem dX7_daysYet_40 : decode cX7_daysYet 40 = .ok (.isub, 1) := by decide +kernel
theorem dX7_daysYet_41 : decode cX7_daysYet 41 = .ok (.ireturn, 1) := by decide +kernel
set_option maxRecDepth 20000 in
theorem ggX7_of_X7_isPoint : GoodIn wsX7_of wsX7_isPoint := goodIn_r _ [6, 7, 57, 58, 59, 60, 61, 62, 63, 64, 65, 66, 67, 68, 69, 70, 71] (by decide +kernel) (by decide +kernel)
set_option maxRecDepth 20000 in
theorem gX7_of_X7_isPoint : GoodIn wsX7_of (wsV RX7 96 RX7 yX7_isPoint wsX7_isPoint) := goodIn_app (goodIn_of _ (by decide +kernel)) ggX7_of_X7_isPoint
set_option maxRecDepth 20000 in
theorem ggX7_of_X7_look : GoodIn wsX7_of wsX7_look := goodIn_r _ [11, 12, 13, 14, 5, 15, 16, 7, 1, 17, 18, 19, 20, 21, 22, 23, 24, 25, 26, 27, 28, 29, 30, 31, 32, 33, 34, 35, 36, 37, 38, 39, 40, 57, 58, 59, 60, 61, 62, 63, 64, 65, 66, 67, 68, 69, 70, 71] (by decide +kernel) (by decide +kernel)
set_option maxRecDepth 20000 in
theorem gX7_of_X7_look : GoodIn wsX7_of (wsV RX7 106 RX7 yX7_look wsX7_look) := goodIn_app (goodIn_of _ (by decide +kernel)) ggX7_of_X7_look
set_option maxRecDepth 20000 in
theorem ggX7_of_X7_its : GoodIn wsX7_of wsX7_its := goodIn_r _ [20, 7, 57, 58, 59, 60, 61, 62, 63, 64, 65, 66, 67, 68, 69, 70, 71] (by decide +kernel) (by decide +kernel)
set_option maxRecDepth 20000 in
theorem gX7_of_X7_its : GoodIn wsX7_of (wsV RX7 42 RX7 yX7_its wsX7_its) := goodIn_app (goodIn_of _ (by decide +kernel)) ggX7_of_X7_its
set_option maxRecDepth 20000 in
theorem ggX7_of_X7_lowestThatStands : GoodIn wsX7_of wsX7_lowestThatStands := goodIn_r _ [44, 7, 1, 17, 18, 19, 5, 20, 57, 58, 59, 60, 61, 62, 63, 64, 65, 66, 67, 68, 69, 70, 71] (by decide +kernel) (by decide +kernel)
set_option maxRecDepth 20000 in
theorem gX7_of_X7_lowestThatStands : GoodIn wsX7_of (wsV RX7 125 RX7 yX7_lowestThatStands wsX7_lowestThatStands) := goodIn_app (goodIn_of _ (by decide +kernel)) ggX7_of_X7_lowestThatStands
set_option maxRecDepth 20000 in
theorem ggX7_of_X7_answersTo : GoodIn wsX7_of wsX7_answersTo := goodIn_r _ [48, 7, 17, 18, 19, 5, 20, 57, 58, 59, 60, 61, 62, 63, 64, 65, 66, 67, 68, 69, 70, 71] (by decide +kernel) (by decide +kernel)
set_option maxRecDepth 20000 in
theorem gX7_of_X7_answersTo : GoodIn wsX7_of (wsV RX7 128 RX7 yX7_answersTo wsX7_answersTo) := goodIn_app (goodIn_of _ (by decide +kernel)) ggX7_of_X7_answersTo
set_option maxRecDepth 20000 in
theorem ggX7_of_X7_depth : GoodIn wsX7_of wsX7_depth := goodIn_r _ [52, 29, 30, 31, 5, 32, 17, 18, 19, 20, 7, 57, 58, 59, 60, 61, 62, 63, 64, 65, 66, 67, 68, 69, 70, 71] (by decide +kernel) (by decide +kernel)
set_option maxRecDepth 20000 in
theorem gX7_of_X7_depth : GoodIn wsX7_of (wsV RX7 131 RX7 yX7_depth wsX7_depth) := goodIn_app (goodIn_of _ (by decide +kernel)) ggX7_of_X7_depth
set_option maxRecDepth 20000 in
theorem ggX7_of_X7_daysYet : GoodIn wsX7_of wsX7_daysYet := goodIn_r _ [56, 7, 29, 30, 31, 5, 32, 17, 18, 19, 20, 25, 26, 27, 28, 57, 58, 59, 60, 61, 62, 63, 64, 65, 66, 67, 68, 69, 70, 71] (by decide +kernel) (by decide +kernel)
set_option maxRecDepth 20000 in
theorem gX7_of_X7_daysYet : GoodIn wsX7_of (wsV RX7 134 RX7 yX7_daysYet wsX7_daysYet) := goodIn_app (goodIn_of _ (by decide +kernel)) ggX7_of_X7_daysYet
theorem dX7_of_0 : decode cX7_of 0 = .ok (.aload_n 0, 1) := by decide +kernel
theorem dX7_of_1 : decode cX7_of 1 = .ok (.iload_n 1, 1) := by decide +kernel
theorem dX7_of_2 : decode cX7_of 2 = .ok (.invokevirtual 96, 3) := by decide +kernel
theorem dX7_of_5 : decode cX7_of 5 = .ok (.ifCond .ne 5, 3) := by decide +kernel
theorem dX7_of_8 : decode cX7_of 8 = .ok (.iconst (-1), 1) := by decide +kernel
theorem dX7_of_9 : decode cX7_of 9 = .ok (.ireturn, 1) := by decide +kernel
theorem dX7_of_10 : decode cX7_of 10 = .ok (.aload_n 0, 1) := by decide +kernel
theorem dX7_of_11 : decode cX7_of 11 = .ok (.invokevirtual 106, 3) := by decide +kernel
theorem dX7_of_14 : decode cX7_of 14 = .ok (.iload_n 2, 1) := by decide +kernel
theorem dX7_of_15 : decode cX7_of 15 = .ok (.tableswitch 119 0 10 #[57, 57, 57, 64, 64, 73, 88, 95, 101, 107, 113], 57) := by decide +kernel
theorem dX7_of_72 : decode cX7_of 72 = .ok (.aload_n 0, 1) := by decide +kernel
theorem dX7_of_73 : decode cX7_of 73 = .ok (.iload_n 1, 1) := by decide +kernel
theorem dX7_of_74 : decode cX7_of 74 = .ok (.iload_n 2, 1) := by decide +kernel
theorem dX7_of_75 : decode cX7_of 75 = .ok (.invokevirtual 42, 3) := by decide +kernel
theorem dX7_of_78 : decode cX7_of 78 = .ok (.ireturn, 1) := by decide +kernel
theorem dX7_of_79 : decode cX7_of 79 = .ok (.aload_n 0, 1) := by decide +kernel
theorem dX7_of_80 : decode cX7_of 80 = .ok (.iload_n 1, 1) := by decide +kernel
theorem dX7_of_81 : decode cX7_of 81 = .ok (.iload_n 2, 1) := by decide +kernel
theorem dX7_of_82 : decode cX7_of 82 = .ok (.iconst 1, 1) := by decide +kernel
theorem dX7_of_83 : decode cX7_of 83 = .ok (.iadd, 1) := by decide +kernel
theorem dX7_of_84 : decode cX7_of 84 = .ok (.invokevirtual 42, 3) := by decide +kernel
theorem dX7_of_87 : decode cX7_of 87 = .ok (.ireturn, 1) := by decide +kernel
theorem dX7_of_88 : decode cX7_of 88 = .ok (.aload_n 0, 1) := by decide +kernel
theorem dX7_of_89 : decode cX7_of 89 = .ok (.getfield 27, 3) := by decide +kernel
theorem dX7_of_92 : decode cX7_of 92 = .ok (.iload_n 1, 1) := by decide +kernel
theorem dX7_of_93 : decode cX7_of 93 = .ok (.iaload, 1) := by decide +kernel
theorem dX7_of_94 : decode cX7_of 94 = .ok (.ifCond .ne 7, 3) := by decide +kernel
theorem dX7_of_97 : decode cX7_of 97 = .ok (.iconst 1, 1) := by decide +kernel
theorem dX7_of_98 : decode cX7_of 98 = .ok (.goto 4, 3) := by decide +kernel
theorem dX7_of_101 : decode cX7_of 101 = .ok (.iconst 0, 1) := by decide +kernel
theorem dX7_of_102 : decode cX7_of 102 = .ok (.ireturn, 1) := by decide +kernel
theorem dX7_of_103 : decode cX7_of 103 = .ok (.aload_n 0, 1) := by decide +kernel
theorem dX7_of_104 : decode cX7_of 104 = .ok (.getfield 27, 3) := by decide +kernel
theorem dX7_of_107 : decode cX7_of 107 = .ok (.iload_n 1, 1) := by decide +kernel
theorem dX7_of_108 : decode cX7_of 108 = .ok (.iaload, 1) := by decide +kernel
theorem dX7_of_109 : decode cX7_of 109 = .ok (.ireturn, 1) := by decide +kernel
theorem dX7_of_110 : decode cX7_of 110 = .ok (.aload_n 0, 1) := by decide +kernel
theorem dX7_of_111 : decode cX7_of 111 = .ok (.iload_n 1, 1) := by decide +kernel
theorem dX7_of_112 : decode cX7_of 112 = .ok (.invokevirtual 125, 3) := by decide +kernel
theorem dX7_of_115 : decode cX7_of 115 = .ok (.ireturn, 1) := by decide +kernel
theorem dX7_of_116 : decode cX7_of 116 = .ok (.aload_n 0, 1) := by decide +kernel
theorem dX7_of_117 : decode cX7_of 117 = .ok (.iload_n 1, 1) := by decide +kernel
theorem dX7_of_118 : decode cX7_of 118 = .ok (.invokevirtual 128, 3) := by decide +kernel
theorem dX7_of_121 : decode cX7_of 121 = .ok (.ireturn, 1) := by decide +kernel
theorem dX7_of_122 : decode cX7_of 122 = .ok (.aload_n 0, 1) := by decide +kernel
theorem dX7_of_123 : decode cX7_of 123 = .ok (.iload_n 1, 1) := by decide +kernel
theorem dX7_of_124 : decode cX7_of 124 = .ok (.invokevirtual 131, 3) := by decide +kernel
theorem dX7_of_127 : decode cX7_of 127 = .ok (.ireturn, 1) := by decide +kernel
theorem dX7_of_128 : decode cX7_of 128 = .ok (.aload_n 0, 1) := by decide +kernel
theorem dX7_of_129 : decode cX7_of 129 = .ok (.iload_n 1, 1) := by decide +kernel
theorem dX7_of_130 : decode cX7_of 130 = .ok (.invokevirtual 134, 3) := by decide +kernel
theorem dX7_of_133 : decode cX7_of 133 = .ok (.ireturn, 1) := by decide +kernel
theorem dX7_of_134 : decode cX7_of 134 = .ok (.bipush (-2), 2) := by decide +kernel
theorem dX7_of_136 : decode cX7_of 136 = .ok (.ireturn, 1) := by decide +kernel
set_option maxRecDepth 20000 in
theorem ggX7_outOnes_X7_in : GoodIn wsX7_outOnes wsX7_in := goodIn_r _ [6] (by decide +kernel) (by decide +kernel)
set_option maxRecDepth 20000 in
theorem gX7_outOnes_X7_in : GoodIn wsX7_outOnes (va_wsS RX7 50 yX7_in wsX7_in) := goodIn_app (goodIn_of _ (by decide +kernel)) ggX7_outOnes_X7_in
theorem dX7_outOnes_0 : decode cX7_outOnes 0 = .ok (.iconst 0, 1) := by decide +kernel
theorem dX7_outOnes_1 : decode cX7_outOnes 1 = .ok (.istore_n 1, 1) := by decide +kernel
theorem dX7_outOnes_2 : decode cX7_outOnes 2 = .ok (.iconst 0, 1) := by decide +kernel
theorem dX7_outOnes_3 : decode cX7_outOnes 3 = .ok (.istore_n 2, 1) := by decide +kernel
theorem dX7_outOnes_4 : decode cX7_outOnes 4 = .ok (.iload_n 2, 1) := by decide +kernel
theorem dX7_outOnes_5 : decode cX7_outOnes 5 = .ok (.aload_n 0, 1) := by decide +kernel
theorem dX7_outOnes_6 : decode cX7_outOnes 6 = .ok (.getfield 7, 3) := by decide +kernel
theorem dX7_outOnes_9 : decode cX7_outOnes 9 = .ok (.iconst 3, 1) := by decide +kernel
theorem dX7_outOnes_10 : decode cX7_outOnes 10 = .ok (.iaload, 1) := by decide +kernel
theorem dX7_outOnes_11 : decode cX7_outOnes 11 = .ok (.if_icmp .ge 33, 3) := by decide +kernel
theorem dX7_outOnes_14 : decode cX7_outOnes 14 = .ok (.iload_n 1, 1) := by decide +kernel
theorem dX7_outOnes_15 : decode cX7_outOnes 15 = .ok (.aload_n 0, 1) := by decide +kernel
theorem dX7_outOnes_16 : decode cX7_outOnes 16 = .ok (.getfield 27, 3) := by decide +kernel
theorem dX7_outOnes_19 : decode cX7_outOnes 19 = .ok (.iload_n 2, 1) := by decide +kernel
theorem dX7_outOnes_20 : decode cX7_outOnes 20 = .ok (.iaload, 1) := by decide +kernel
theorem dX7_outOnes_21 : decode cX7_outOnes 21 = .ok (.iconst 1, 1) := by decide +kernel
theorem dX7_outOnes_22 : decode cX7_outOnes 22 = .ok (.iconst 4, 1) := by decide +kernel
theorem dX7_outOnes_23 : decode cX7_outOnes 23 = .ok (.invokestatic 50, 3) := by decide +kernel
theorem dX7_outOnes_26 : decode cX7_outOnes 26 = .ok (.ifCond .eq 9, 3) := by decide +kernel
theorem dX7_outOnes_29 : decode cX7_outOnes 29 = .ok (.iconst 1, 1) := by decide +kernel
theorem dX7_outOnes_30 : decode cX7_outOnes 30 = .ok (.iload_n 2, 1) := by decide +kernel
theorem dX7_outOnes_31 : decode cX7_outOnes 31 = .ok (.ishl, 1) := by decide +kernel
theorem dX7_outOnes_32 : decode cX7_outOnes 32 = .ok (.goto 4, 3) := by decide +kernel
theorem dX7_outOnes_35 : decode cX7_outOnes 35 = .ok (.iconst 0, 1) := by decide +kernel
theorem dX7_outOnes_36 : decode cX7_outOnes 36 = .ok (.ior, 1) := by decide +kernel
theorem dX7_outOnes_37 : decode cX7_outOnes 37 = .ok (.istore_n 1, 1) := by decide +kernel
theorem dX7_outOnes_38 : decode cX7_outOnes 38 = .ok (.iinc 2 1, 3) := by decide +kernel
theorem dX7_outOnes_41 : decode cX7_outOnes 41 = .ok (.goto (-37), 3) := by decide +kernel
theorem dX7_outOnes_44 : decode cX7_outOnes 44 = .ok (.iload_n 1, 1) := by decide +kernel
theorem dX7_outOnes_45 : decode cX7_outOnes 45 = .ok (.ireturn, 1) := by decide +kernel
theorem dX7_answeredOnes_0 : decode cX7_answeredOnes 0 = .ok (.iconst 0, 1) := by decide +kernel
theorem dX7_answeredOnes_1 : decode cX7_answeredOnes 1 = .ok (.istore_n 1, 1) := by decide +kernel
theorem dX7_answeredOnes_2 : decode cX7_answeredOnes 2 = .ok (.iconst 0, 1) := by decide +kernel
theorem dX7_answeredOnes_3 : decode cX7_answeredOnes 3 = .ok (.istore_n 2, 1) := by decide +kernel
theorem dX7_answeredOnes_4 : decode cX7_answeredOnes 4 = .ok (.iload_n 2, 1) := by decide +kernel
theorem dX7_answeredOnes_5 : decode cX7_answeredOnes 5 = .ok (.aload_n 0, 1) := by decide +kernel
theorem dX7_answeredOnes_6 : decode cX7_answeredOnes 6 = .ok (.getfield 7, 3) := by decide +kernel
theorem dX7_answeredOnes_9 : decode cX7_answeredOnes 9 = .ok (.iconst 3, 1) := by decide +kernel
theorem dX7_answeredOnes_10 : decode cX7_answeredOnes 10 = .ok (.iaload, 1) := by decide +kernel
theorem dX7_answeredOnes_11 : decode cX7_answeredOnes 11 = .ok (.if_icmp .ge 29, 3) := by decide +kernel
theorem dX7_answeredOnes_14 : decode cX7_answeredOnes 14 = .ok (.iload_n 1, 1) := by decide +kernel
theorem dX7_answeredOnes_15 : decode cX7_answeredOnes 15 = .ok (.aload_n 0, 1) := by decide +kernel
theorem dX7_answeredOnes_16 : decode cX7_answeredOnes 16 = .ok (.getfield 27, 3) := by decide +kernel
theorem dX7_answeredOnes_19 : decode cX7_answeredOnes 19 = .ok (.iload_n 2, 1) := by decide +kernel
theorem dX7_answeredOnes_20 : decode cX7_answeredOnes 20 = .ok (.iaload, 1) := by decide +kernel
theorem dX7_answeredOnes_21 : decode cX7_answeredOnes 21 = .ok (.iconst 5, 1) := by decide +kernel
theorem dX7_answeredOnes_22 : decode cX7_answeredOnes 22 = .ok (.if_icmp .ne 9, 3) := by decide +kernel
theorem dX7_answeredOnes_25 : decode cX7_answeredOnes 25 = .ok (.iconst 1, 1) := by decide +kernel
theorem dX7_answeredOnes_26 : decode cX7_answeredOnes 26 = .ok (.iload_n 2, 1) := by decide +kernel
theorem dX7_answeredOnes_27 : decode cX7_answeredOnes 27 = .ok (.ishl, 1) := by decide +kernel
theorem dX7_answeredOnes_28 : decode cX7_answeredOnes 28 = .ok (.goto 4, 3) := by decide +kernel
theorem dX7_answeredOnes_31 : decode cX7_answeredOnes 31 = .ok (.iconst 0, 1) := by decide +kernel
theorem dX7_answeredOnes_32 : decode cX7_answeredOnes 32 = .ok (.ior, 1) := by decide +kernel
theorem dX7_answeredOnes_33 : decode cX7_answeredOnes 33 = .ok (.istore_n 1, 1) := by decide +kernel
theorem dX7_answeredOnes_34 : decode cX7_answeredOnes 34 = .ok (.iinc 2 1, 3) := by decide +kernel
theorem dX7_answeredOnes_37 : decode cX7_answeredOnes 37 = .ok (.goto (-33), 3) := by decide +kernel
theorem dX7_answeredOnes_40 : decode cX7_answeredOnes 40 = .ok (.iload_n 1, 1) := by decide +kernel
theorem dX7_answeredOnes_41 : decode cX7_answeredOnes 41 = .ok (.ireturn, 1) := by decide +kernel
set_option maxRecDepth 20000 in
theorem ggX7_ofSide_X7_its : GoodIn wsX7_ofSide wsX7_its := goodIn_r _ [6, 1, 7, 8, 9, 10, 11, 12, 13, 14, 15, 16, 17, 18, 19, 20, 21] (by decide +kernel) (by decide +kernel)
set_option maxRecDepth 20000 in
theorem gX7_ofSide_X7_its : GoodIn wsX7_ofSide (wsV RX7 42 RX7 yX7_its wsX7_its) := goodIn_app (goodIn_of _ (by decide +kernel)) ggX7_ofSide_X7_its
theorem dX7_ofSide_0 : decode cX7_ofSide 0 = .ok (.iconst 0, 1) := by decide +kernel
theorem dX7_ofSide_1 : decode cX7_ofSide 1 = .ok (.istore_n 2, 1) := by decide +kernel
theorem dX7_ofSide_2 : decode cX7_ofSide 2 = .ok (.iconst 0, 1) := by decide +kernel
theorem dX7_ofSide_3 : decode cX7_ofSide 3 = .ok (.istore_n 3, 1) := by decide +kernel
theorem dX7_ofSide_4 : decode cX7_ofSide 4 = .ok (.iload_n 3, 1) := by decide +kernel
theorem dX7_ofSide_5 : decode cX7_ofSide 5 = .ok (.aload_n 0, 1) := by decide +kernel
theorem dX7_ofSide_6 : decode cX7_ofSide 6 = .ok (.getfield 7, 3) := by decide +kernel
theorem dX7_ofSide_9 : decode cX7_ofSide 9 = .ok (.iconst 3, 1) := by decide +kernel
theorem dX7_ofSide_10 : decode cX7_ofSide 10 = .ok (.iaload, 1) := by decide +kernel
theorem dX7_ofSide_11 : decode cX7_ofSide 11 = .ok (.if_icmp .ge 29, 3) := by decide +kernel
theorem dX7_ofSide_14 : decode cX7_ofSide 14 = .ok (.iload_n 2, 1) := by decide +kernel
theorem dX7_ofSide_15 : decode cX7_ofSide 15 = .ok (.aload_n 0, 1) := by decide +kernel
theorem dX7_ofSide_16 : decode cX7_ofSide 16 = .ok (.iload_n 3, 1) := by decide +kernel
theorem dX7_ofSide_17 : decode cX7_ofSide 17 = .ok (.iconst 0, 1) := by decide +kernel
theorem dX7_ofSide_18 : decode cX7_ofSide 18 = .ok (.invokevirtual 42, 3) := by decide +kernel
theorem dX7_ofSide_21 : decode cX7_ofSide 21 = .ok (.iload_n 1, 1) := by decide +kernel
theorem dX7_ofSide_22 : decode cX7_ofSide 22 = .ok (.if_icmp .ne 9, 3) := by decide +kernel
theorem dX7_ofSide_25 : decode cX7_ofSide 25 = .ok (.iconst 1, 1) := by decide +kernel
theorem dX7_ofSide_26 : decode cX7_ofSide 26 = .ok (.iload_n 3, 1) := by decide +kernel
theorem dX7_ofSide_27 : decode cX7_ofSide 27 = .ok (.ishl, 1) := by decide +kernel
theorem dX7_ofSide_28 : decode cX7_ofSide 28 = .ok (.goto 4, 3) := by decide +kernel
theorem dX7_ofSide_31 : decode cX7_ofSide 31 = .ok (.iconst 0, 1) := by decide +kernel
theorem dX7_ofSide_32 : decode cX7_ofSide 32 = .ok (.ior, 1) := by decide +kernel
theorem dX7_ofSide_33 : decode cX7_ofSide 33 = .ok (.istore_n 2, 1) := by decide +kernel
theorem dX7_ofSide_34 : decode cX7_ofSide 34 = .ok (.iinc 3 1, 3) := by decide +kernel
theorem dX7_ofSide_37 : decode cX7_ofSide 37 = .ok (.goto (-33), 3) := by decide +kernel
theorem dX7_ofSide_40 : decode cX7_ofSide 40 = .ok (.iload_n 2, 1) := by decide +kernel
theorem dX7_ofSide_41 : decode cX7_ofSide 41 = .ok (.ireturn, 1) := by decide +kernel
set_option maxRecDepth 20000 in
theorem ggX7_count_X7_look : GoodIn wsX7_count wsX7_look := goodIn_r _ [9, 10, 11, 12, 8, 13, 2, 1, 14, 15, 16, 17, 18, 19, 20, 21, 22, 23, 24, 25, 26, 27, 28, 29, 30, 31, 32, 33, 34, 35, 36, 37, 38, 61, 62, 63, 64, 65, 66, 67, 68, 69, 70, 71, 72, 73, 74, 75] (by decide +kernel) (by decide +kernel)
set_option maxRecDepth 20000 in
theorem gX7_count_X7_look : GoodIn wsX7_count (wsV RX7 106 RX7 yX7_look wsX7_look) := goodIn_app (goodIn_of _ (by decide +kernel)) ggX7_count_X7_look
set_option maxRecDepth 20000 in
theorem ggX7_count_X7_claims : GoodIn wsX7_count wsX7_claims := goodIn_r _ [42, 1, 27, 28, 29, 8, 30, 15, 16, 17, 18, 61, 62, 63, 64, 65, 66, 67, 68, 69, 70, 71, 72, 73, 74, 75] (by decide +kernel) (by decide +kernel)
set_option maxRecDepth 20000 in
theorem gX7_count_X7_claims : GoodIn wsX7_count (wsV RX7 137 RX7 yX7_claims wsX7_claims) := goodIn_app (goodIn_of _ (by decide +kernel)) ggX7_count_X7_claims
set_option maxRecDepth 20000 in
theorem ggX7_count_X7_bits : GoodIn wsX7_count wsX7_bits := goodIn_r _ [45] (by decide +kernel) (by decide +kernel)
set_option maxRecDepth 20000 in
theorem gX7_count_X7_bits : GoodIn wsX7_count (va_wsS RX7 113 yX7_bits wsX7_bits) := goodIn_app (goodIn_of _ (by decide +kernel)) ggX7_count_X7_bits
set_option maxRecDepth 20000 in
theorem ggX7_count_X7_standing : GoodIn wsX7_count wsX7_standing := goodIn_r _ [49, 1, 14, 61, 62, 63, 64, 65, 66, 67, 68, 69, 70, 71, 72, 73, 74, 75] (by decide +kernel) (by decide +kernel)
set_option maxRecDepth 20000 in
theorem gX7_count_X7_standing : GoodIn wsX7_count (wsV RX7 109 RX7 yX7_standing wsX7_standing) := goodIn_app (goodIn_of _ (by decide +kernel)) ggX7_count_X7_standing
set_option maxRecDepth 20000 in
theorem ggX7_count_X7_outOnes : GoodIn wsX7_count wsX7_outOnes := goodIn_r _ [53, 1, 14, 54, 55, 8, 56, 61, 62, 63, 64, 65, 66, 67, 68, 69, 70, 71, 72, 73, 74, 75] (by decide +kernel) (by decide +kernel)
set_option maxRecDepth 20000 in
theorem gX7_count_X7_outOnes : GoodIn wsX7_count (wsV RX7 140 RX7 yX7_outOnes wsX7_outOnes) := goodIn_app (goodIn_of _ (by decide +kernel)) ggX7_count_X7_outOnes
set_option maxRecDepth 20000 in
theorem ggX7_count_X7_answeredOnes : GoodIn wsX7_count wsX7_answeredOnes := goodIn_r _ [60, 1, 14, 61, 62, 63, 64, 65, 66, 67, 68, 69, 70, 71, 72, 73, 74, 75] (by decide +kernel) (by decide +kernel)
set_option maxRecDepth 20000 in
theorem gX7_count_X7_answeredOnes : GoodIn wsX7_count (wsV RX7 143 RX7 yX7_answeredOnes wsX7_answeredOnes) := goodIn_app (goodIn_of _ (by decide +kernel)) ggX7_count_X7_answeredOnes
theorem dX7_count_0 : decode cX7_count 0 = .ok (.aload_n 0, 1) := by decide +kernel
theorem dX7_count_1 : decode cX7_count 1 = .ok (.invokevirtual 106, 3) := by decide +kernel
theorem dX7_count_4 : decode cX7_count 4 = .ok (.iload_n 1, 1) := by decide +kernel
theorem dX7_count_5 : decode cX7_count 5 = .ok (.tableswitch 167 0 13 #[71, 78, 85, 93, 101, 114, 122, 130, 130, 140, 147, 147, 157, 162], 71) := by decide +kernel
theorem dX7_count_76 : decode cX7_count 76 = .ok (.aload_n 0, 1) := by decide +kernel
theorem dX7_count_77 : decode cX7_count 77 = .ok (.getfield 7, 3) := by decide +kernel
theorem dX7_count_80 : decode cX7_count 80 = .ok (.iconst 2, 1) := by decide +kernel
theorem dX7_count_81 : decode cX7_count 81 = .ok (.iaload, 1) := by decide +kernel
theorem dX7_count_82 : decode cX7_count 82 = .ok (.ireturn, 1) := by decide +kernel
theorem dX7_count_83 : decode cX7_count 83 = .ok (.aload_n 0, 1) := by decide +kernel
theorem dX7_count_84 : decode cX7_count 84 = .ok (.getfield 7, 3) := by decide +kernel
theorem dX7_count_87 : decode cX7_count 87 = .ok (.iconst 3, 1) := by decide +kernel
theorem dX7_count_88 : decode cX7_count 88 = .ok (.iaload, 1) := by decide +kernel
theorem dX7_count_89 : decode cX7_count 89 = .ok (.ireturn, 1) := by decide +kernel
theorem dX7_count_90 : decode cX7_count 90 = .ok (.aload_n 0, 1) := by decide +kernel
theorem dX7_count_91 : decode cX7_count 91 = .ok (.invokevirtual 137, 3) := by decide +kernel
theorem dX7_count_94 : decode cX7_count 94 = .ok (.invokestatic 113, 3) := by decide +kernel
theorem dX7_count_97 : decode cX7_count 97 = .ok (.ireturn, 1) := by decide +kernel
theorem dX7_count_98 : decode cX7_count 98 = .ok (.aload_n 0, 1) := by decide +kernel
theorem dX7_count_99 : decode cX7_count 99 = .ok (.invokevirtual 109, 3) := by decide +kernel
theorem dX7_count_102 : decode cX7_count 102 = .ok (.invokestatic 113, 3) := by decide +kernel
theorem dX7_count_105 : decode cX7_count 105 = .ok (.ireturn, 1) := by decide +kernel
theorem dX7_count_106 : decode cX7_count 106 = .ok (.aload_n 0, 1) := by decide +kernel
theorem dX7_count_107 : decode cX7_count 107 = .ok (.invokevirtual 109, 3) := by decide +kernel
theorem dX7_count_110 : decode cX7_count 110 = .ok (.aload_n 0, 1) := by decide +kernel
theorem dX7_count_111 : decode cX7_count 111 = .ok (.invokevirtual 137, 3) := by decide +kernel
theorem dX7_count_114 : decode cX7_count 114 = .ok (.iand, 1) := by decide +kernel
theorem dX7_count_115 : decode cX7_count 115 = .ok (.invokestatic 113, 3) := by decide +kernel
theorem dX7_count_118 : decode cX7_count 118 = .ok (.ireturn, 1) := by decide +kernel
theorem dX7_count_119 : decode cX7_count 119 = .ok (.aload_n 0, 1) := by decide +kernel
theorem dX7_count_120 : decode cX7_count 120 = .ok (.invokevirtual 140, 3) := by decide +kernel
theorem dX7_count_123 : decode cX7_count 123 = .ok (.invokestatic 113, 3) := by decide +kernel
theorem dX7_count_126 : decode cX7_count 126 = .ok (.ireturn, 1) := by decide +kernel
theorem dX7_count_127 : decode cX7_count 127 = .ok (.aload_n 0, 1) := by decide +kernel
theorem dX7_count_128 : decode cX7_count 128 = .ok (.invokevirtual 143, 3) := by decide +kernel
theorem dX7_count_131 : decode cX7_count 131 = .ok (.invokestatic 113, 3) := by decide +kernel
theorem dX7_count_134 : decode cX7_count 134 = .ok (.ireturn, 1) := by decide +kernel
theorem dX7_count_135 : decode cX7_count 135 = .ok (.aload_n 0, 1) := by decide +kernel
theorem dX7_count_136 : decode cX7_count 136 = .ok (.getfield 30, 3) := by decide +kernel
theorem dX7_count_139 : decode cX7_count 139 = .ok (.iload_n 1, 1) := by decide +kernel
theorem dX7_count_140 : decode cX7_count 140 = .ok (.bipush 7, 2) := by decide +kernel
theorem dX7_count_142 : decode cX7_count 142 = .ok (.isub, 1) := by decide +kernel
theorem dX7_count_143 : decode cX7_count 143 = .ok (.iaload, 1) := by decide +kernel
theorem dX7_count_144 : decode cX7_count 144 = .ok (.ireturn, 1) := by decide +kernel
theorem dX7_count_145 : decode cX7_count 145 = .ok (.aload_n 0, 1) := by decide +kernel
theorem dX7_count_146 : decode cX7_count 146 = .ok (.getfield 7, 3) := by decide +kernel
theorem dX7_count_149 : decode cX7_count 149 = .ok (.iconst 4, 1) := by decide +kernel
theorem dX7_count_150 : decode cX7_count 150 = .ok (.iaload, 1) := by decide +kernel
theorem dX7_count_151 : decode cX7_count 151 = .ok (.ireturn, 1) := by decide +kernel
theorem dX7_count_152 : decode cX7_count 152 = .ok (.aload_n 0, 1) := by decide +kernel
theorem dX7_count_153 : decode cX7_count 153 = .ok (.getfield 7, 3) := by decide +kernel
theorem dX7_count_156 : decode cX7_count 156 = .ok (.iload_n 1, 1) := by decide +kernel
theorem dX7_count_157 : decode cX7_count 157 = .ok (.bipush 10, 2) := by decide +kernel
theorem dX7_count_159 : decode cX7_count 159 = .ok (.isub, 1) := by decide +kernel
theorem dX7_count_160 : decode cX7_count 160 = .ok (.iaload, 1) := by decide +kernel
theorem dX7_count_161 : decode cX7_count 161 = .ok (.ireturn, 1) := by decide +kernel
theorem dX7_count_162 : decode cX7_count 162 = .ok (.aload_n 0, 1) := by decide +kernel
theorem dX7_count_163 : decode cX7_count 163 = .ok (.getfield 146, 3) := by decide +kernel
theorem dX7_count_166 : decode cX7_count 166 = .ok (.ireturn, 1) := by decide +kernel
theorem dX7_count_167 : decode cX7_count 167 = .ok (.aload_n 0, 1) := by decide +kernel
theorem dX7_count_168 : decode cX7_count 168 = .ok (.getfield 46, 3) := by decide +kernel
theorem dX7_count_171 : decode cX7_count 171 = .ok (.ireturn, 1) := by decide +kernel
theorem dX7_count_172 : decode cX7_count 172 = .ok (.bipush (-2), 2) := by decide +kernel
theorem dX7_count_174 : decode cX7_count 174 = .ok (.ireturn, 1) := by decide +kernel
set_option maxRecDepth 20000 in
theorem ggX7_points_X7_look : GoodIn wsX7_points wsX7_look := goodIn_r _ [5, 6, 7, 8, 4, 9, 10, 11, 12, 13, 14, 15, 16, 17, 18, 19, 20, 21, 22, 23, 24, 25, 26, 27, 28, 29, 30, 31, 32, 33, 34, 35, 36, 60, 61, 62, 63, 64, 65, 66, 67, 68, 69, 70, 71, 72, 73, 74] (by decide +kernel) (by decide +kernel)
set_option maxRecDepth 20000 in
theorem gX7_points_X7_look : GoodIn wsX7_points (wsV RX7 106 RX7 yX7_look wsX7_look) := goodIn_app (goodIn_of _ (by decide +kernel)) ggX7_points_X7_look
set_option maxRecDepth 20000 in
theorem ggX7_points_X7_standing : GoodIn wsX7_points wsX7_standing := goodIn_r _ [40, 11, 12, 60, 61, 62, 63, 64, 65, 66, 67, 68, 69, 70, 71, 72, 73, 74] (by decide +kernel) (by decide +kernel)
set_option maxRecDepth 20000 in
theorem gX7_points_X7_standing : GoodIn wsX7_points (wsV RX7 109 RX7 yX7_standing wsX7_standing) := goodIn_app (goodIn_of _ (by decide +kernel)) ggX7_points_X7_standing
set_option maxRecDepth 20000 in
theorem ggX7_points_X7_claims : GoodIn wsX7_points wsX7_claims := goodIn_r _ [44, 11, 25, 26, 27, 4, 28, 13, 14, 15, 16, 60, 61, 62, 63, 64, 65, 66, 67, 68, 69, 70, 71, 72, 73, 74] (by decide +kernel) (by decide +kernel)
set_option maxRecDepth 20000 in
theorem gX7_points_X7_claims : GoodIn wsX7_points (wsV RX7 137 RX7 yX7_claims wsX7_claims) := goodIn_app (goodIn_of _ (by decide +kernel)) ggX7_points_X7_claims
set_option maxRecDepth 20000 in
theorem ggX7_points_X7_outOnes : GoodIn wsX7_points wsX7_outOnes := goodIn_r _ [48, 11, 12, 49, 50, 4, 51, 60, 61, 62, 63, 64, 65, 66, 67, 68, 69, 70, 71, 72, 73, 74] (by decide +kernel) (by decide +kernel)
set_option maxRecDepth 20000 in
theorem gX7_points_X7_outOnes : GoodIn wsX7_points (wsV RX7 140 RX7 yX7_outOnes wsX7_outOnes) := goodIn_app (goodIn_of _ (by decide +kernel)) ggX7_points_X7_outOnes
set_option maxRecDepth 20000 in
theorem ggX7_points_X7_answeredOnes : GoodIn wsX7_points wsX7_answeredOnes := goodIn_r _ [55, 11, 12, 60, 61, 62, 63, 64, 65, 66, 67, 68, 69, 70, 71, 72, 73, 74] (by decide +kernel) (by decide +kernel)
set_option maxRecDepth 20000 in
theorem gX7_points_X7_answeredOnes : GoodIn wsX7_points (wsV RX7 143 RX7 yX7_answeredOnes wsX7_answeredOnes) := goodIn_app (goodIn_of _ (by decide +kernel)) ggX7_points_X7_answeredOnes
set_option maxRecDepth 20000 in
theorem ggX7_points_X7_ofSide : GoodIn wsX7_points wsX7_ofSide := goodIn_r _ [59, 11, 13, 14, 15, 4, 16, 60, 61, 62, 63, 64, 65, 66, 67, 68, 69, 70, 71, 72, 73, 74] (by decide +kernel) (by decide +kernel)
set_option maxRecDepth 20000 in
theorem gX7_points_X7_ofSide : GoodIn wsX7_points (wsV RX7 149 RX7 yX7_ofSide wsX7_ofSide) := goodIn_app (goodIn_of _ (by decide +kernel)) ggX7_points_X7_ofSide
theorem dX7_points_0 : decode cX7_points 0 = .ok (.aload_n 0, 1) := by decide +kernel
theorem dX7_points_1 : decode cX7_points 1 = .ok (.invokevirtual 106, 3) := by decide +kernel
theorem dX7_points_4 : decode cX7_points 4 = .ok (.iload_n 1, 1) := by decide +kernel
theorem dX7_points_5 : decode cX7_points 5 = .ok (.tableswitch 72 0 5 #[39, 44, 54, 59, 64, 64], 39) := by decide +kernel
theorem dX7_points_44 : decode cX7_points 44 = .ok (.aload_n 0, 1) := by decide +kernel
theorem dX7_points_45 : decode cX7_points 45 = .ok (.invokevirtual 109, 3) := by decide +kernel
theorem dX7_points_48 : decode cX7_points 48 = .ok (.ireturn, 1) := by decide +kernel
theorem dX7_points_49 : decode cX7_points 49 = .ok (.aload_n 0, 1) := by decide +kernel
theorem dX7_points_50 : decode cX7_points 50 = .ok (.invokevirtual 109, 3) := by decide +kernel
theorem dX7_points_53 : decode cX7_points 53 = .ok (.aload_n 0, 1) := by decide +kernel
theorem dX7_points_54 : decode cX7_points 54 = .ok (.invokevirtual 137, 3) := by decide +kernel
theorem dX7_points_57 : decode cX7_points 57 = .ok (.iand, 1) := by decide +kernel
theorem dX7_points_58 : decode cX7_points 58 = .ok (.ireturn, 1) := by decide +kernel
theorem dX7_points_59 : decode cX7_points 59 = .ok (.aload_n 0, 1) := by decide +kernel
theorem dX7_points_60 : decode cX7_points 60 = .ok (.invokevirtual 140, 3) := by decide +kernel
theorem dX7_points_63 : decode cX7_points 63 = .ok (.ireturn, 1) := by decide +kernel
theorem dX7_points_64 : decode cX7_points 64 = .ok (.aload_n 0, 1) := by decide +kernel
theorem dX7_points_65 : decode cX7_points 65 = .ok (.invokevirtual 143, 3) := by decide +kernel
theorem dX7_points_68 : decode cX7_points 68 = .ok (.ireturn, 1) := by decide +kernel
theorem dX7_points_69 : decode cX7_points 69 = .ok (.aload_n 0, 1) := by decide +kernel
theorem dX7_points_70 : decode cX7_points 70 = .ok (.iload_n 1, 1) := by decide +kernel
theorem dX7_points_71 : decode cX7_points 71 = .ok (.iconst 4, 1) := by decide +kernel
theorem dX7_points_72 : decode cX7_points 72 = .ok (.isub, 1) := by decide +kernel
theorem dX7_points_73 : decode cX7_points 73 = .ok (.invokevirtual 149, 3) := by decide +kernel
theorem dX7_points_76 : decode cX7_points 76 = .ok (.ireturn, 1) := by decide +kernel
theorem dX7_points_77 : decode cX7_points 77 = .ok (.bipush (-2), 2) := by decide +kernel
theorem dX7_points_79 : decode cX7_points 79 = .ok (.ireturn, 1) := by decide +kernel
theorem dX7_bitsOf_0 : decode cX7_bitsOf 0 = .ok (.fload_n 0, 1) := by decide +kernel
theorem dX7_bitsOf_1 : decode cX7_bitsOf 1 = .ok (.fconst 0, 1) := by decide +kernel
theorem dX7_bitsOf_2 : decode cX7_bitsOf 2 = .ok (.fcmp .l, 1) := by decide +kernel
theorem dX7_bitsOf_3 : decode cX7_bitsOf 3 = .ok (.ifCond .ne 5, 3) := by decide +kernel
theorem dX7_bitsOf_6 : decode cX7_bitsOf 6 = .ok (.iconst 0, 1) := by decide +kernel
theorem dX7_bitsOf_7 : decode cX7_bitsOf 7 = .ok (.ireturn, 1) := by decide +kernel
theorem dX7_bitsOf_8 : decode cX7_bitsOf 8 = .ok (.fload_n 0, 1) := by decide +kernel
theorem dX7_bitsOf_9 : decode cX7_bitsOf 9 = .ok (.fstore_n 1, 1) := by decide +kernel
theorem dX7_bitsOf_10 : decode cX7_bitsOf 10 = .ok (.bipush 127, 2) := by decide +kernel
theorem dX7_bitsOf_12 : decode cX7_bitsOf 12 = .ok (.istore_n 2, 1) := by decide +kernel
theorem dX7_bitsOf_13 : decode cX7_bitsOf 13 = .ok (.fload_n 1, 1) := by decide +kernel
theorem dX7_bitsOf_14 : decode cX7_bitsOf 14 = .ok (.fconst 1, 1) := by decide +kernel
theorem dX7_bitsOf_15 : decode cX7_bitsOf 15 = .ok (.fcmp .g, 1) := by decide +kernel
theorem dX7_bitsOf_16 : decode cX7_bitsOf 16 = .ok (.ifCond .ge 13, 3) := by decide +kernel
theorem dX7_bitsOf_19 : decode cX7_bitsOf 19 = .ok (.fload_n 1, 1) := by decide +kernel
theorem dX7_bitsOf_20 : decode cX7_bitsOf 20 = .ok (.fconst 2, 1) := by decide +kernel
theorem dX7_bitsOf_21 : decode cX7_bitsOf 21 = .ok (.fmul, 1) := by decide +kernel
theorem dX7_bitsOf_22 : decode cX7_bitsOf 22 = .ok (.fstore_n 1, 1) := by decide +kernel
theorem dX7_bitsOf_23 : decode cX7_bitsOf 23 = .ok (.iinc 2 (-1), 3) := by decide +kernel
theorem dX7_bitsOf_26 : decode cX7_bitsOf 26 = .ok (.goto (-13), 3) := by decide +kernel
theorem dX7_bitsOf_29 : decode cX7_bitsOf 29 = .ok (.iload_n 2, 1) := by decide +kernel
theorem dX7_bitsOf_30 : decode cX7_bitsOf 30 = .ok (.bipush 23, 2) := by decide +kernel
theorem dX7_bitsOf_32 : decode cX7_bitsOf 32 = .ok (.ishl, 1) := by decide +kernel
theorem dX7_bitsOf_33 : decode cX7_bitsOf 33 = .ok (.fload_n 1, 1) := by decide +kernel
theorem dX7_bitsOf_34 : decode cX7_bitsOf 34 = .ok (.ldc 152, 2) := by decide +kernel
theorem dX7_bitsOf_36 : decode cX7_bitsOf 36 = .ok (.fmul, 1) := by decide +kernel
theorem dX7_bitsOf_37 : decode cX7_bitsOf 37 = .ok (.f2i, 1) := by decide +kernel
theorem dX7_bitsOf_38 : decode cX7_bitsOf 38 = .ok (.iadd, 1) := by decide +kernel
theorem dX7_bitsOf_39 : decode cX7_bitsOf 39 = .ok (.ldc 153, 2) := by decide +kernel
theorem dX7_bitsOf_41 : decode cX7_bitsOf 41 = .ok (.isub, 1) := by decide +kernel
theorem dX7_bitsOf_42 : decode cX7_bitsOf 42 = .ok (.ireturn, 1) := by decide +kernel
set_option maxRecDepth 20000 in
theorem ggX7_share_X7_in : GoodIn wsX7_share wsX7_in := goodIn_r _ [4] (by decide +kernel) (by decide +kernel)
set_option maxRecDepth 20000 in
theorem gX7_share_X7_in : GoodIn wsX7_share (va_wsS RX7 50 yX7_in wsX7_in) := goodIn_app (goodIn_of _ (by decide +kernel)) ggX7_share_X7_in
set_option maxRecDepth 20000 in
theorem ggX7_share_X7_look : GoodIn wsX7_share wsX7_look := goodIn_r _ [8, 9, 10, 11, 3, 12, 13, 14, 15, 16, 17, 18, 19, 20, 21, 22, 23, 24, 25, 26, 27, 28, 29, 30, 31, 32, 33, 34, 35, 36, 37, 38, 39, 60, 61, 62, 63, 64, 65, 66, 67, 68, 69, 70, 71, 72, 73, 74] (by decide +kernel) (by decide +kernel)
set_option maxRecDepth 20000 in
theorem gX7_share_X7_look : GoodIn wsX7_share (wsV RX7 106 RX7 yX7_look wsX7_look) := goodIn_app (goodIn_of _ (by decide +kernel)) ggX7_share_X7_look
set_option maxRecDepth 20000 in
theorem ggX7_share_X7_claims : GoodIn wsX7_share wsX7_claims := goodIn_r _ [43, 14, 28, 29, 30, 3, 31, 16, 17, 18, 19, 60, 61, 62, 63, 64, 65, 66, 67, 68, 69, 70, 71, 72, 73, 74] (by decide +kernel) (by decide +kernel)
set_option maxRecDepth 20000 in
theorem gX7_share_X7_claims : GoodIn wsX7_share (wsV RX7 137 RX7 yX7_claims wsX7_claims) := goodIn_app (goodIn_of _ (by decide +kernel)) ggX7_share_X7_claims
set_option maxRecDepth 20000 in
theorem ggX7_share_X7_ofSide : GoodIn wsX7_share wsX7_ofSide := goodIn_r _ [47, 14, 16, 17, 18, 3, 19, 60, 61, 62, 63, 64, 65, 66, 67, 68, 69, 70, 71, 72, 73, 74] (by decide +kernel) (by decide +kernel)
set_option maxRecDepth 20000 in
theorem gX7_share_X7_ofSide : GoodIn wsX7_share (wsV RX7 149 RX7 yX7_ofSide wsX7_ofSide) := goodIn_app (goodIn_of _ (by decide +kernel)) ggX7_share_X7_ofSide
set_option maxRecDepth 20000 in
theorem ggX7_share_X7_bits : GoodIn wsX7_share wsX7_bits := goodIn_r _ [50] (by decide +kernel) (by decide +kernel)
set_option maxRecDepth 20000 in
theorem gX7_share_X7_bits : GoodIn wsX7_share (va_wsS RX7 113 yX7_bits wsX7_bits) := goodIn_app (goodIn_of _ (by decide +kernel)) ggX7_share_X7_bits
set_option maxRecDepth 20000 in
theorem ggX7_share_X7_standing : GoodIn wsX7_share wsX7_standing := goodIn_r _ [54, 14, 15, 60, 61, 62, 63, 64, 65, 66, 67, 68, 69, 70, 71, 72, 73, 74] (by decide +kernel) (by decide +kernel)
set_option maxRecDepth 20000 in
theorem gX7_share_X7_standing : GoodIn wsX7_share (wsV RX7 109 RX7 yX7_standing wsX7_standing) := goodIn_app (goodIn_of _ (by decide +kernel)) ggX7_share_X7_standing
set_option maxRecDepth 20000 in
theorem ggX7_share_X7_bitsOf : GoodIn wsX7_share wsX7_bitsOf := goodIn_r _ [57, 58, 59] (by decide +kernel) (by decide +kernel)
set_option maxRecDepth 20000 in
theorem gX7_share_X7_bitsOf : GoodIn wsX7_share (va_wsS RX7 154 yX7_bitsOf wsX7_bitsOf) := goodIn_app (goodIn_of _ (by decide +kernel)) ggX7_share_X7_bitsOf
theorem dX7_share_0 : decode cX7_share 0 = .ok (.iload_n 1, 1) := by decide +kernel
theorem dX7_share_1 : decode cX7_share 1 = .ok (.iconst 0, 1) := by decide +kernel
theorem dX7_share_2 : decode cX7_share 2 = .ok (.iconst 1, 1) := by decide +kernel
theorem dX7_share_3 : decode cX7_share 3 = .ok (.invokestatic 50, 3) := by decide +kernel
theorem dX7_share_6 : decode cX7_share 6 = .ok (.ifCond .ne 5, 3) := by decide +kernel
theorem dX7_share_9 : decode cX7_share 9 = .ok (.iconst (-1), 1) := by decide +kernel
theorem dX7_share_10 : decode cX7_share 10 = .ok (.ireturn, 1) := by decide +kernel
theorem dX7_share_11 : decode cX7_share 11 = .ok (.aload_n 0, 1) := by decide +kernel
theorem dX7_share_12 : decode cX7_share 12 = .ok (.invokevirtual 106, 3) := by decide +kernel
theorem dX7_share_15 : decode cX7_share 15 = .ok (.aload_n 0, 1) := by decide +kernel
theorem dX7_share_16 : decode cX7_share 16 = .ok (.invokevirtual 137, 3) := by decide +kernel
theorem dX7_share_19 : decode cX7_share 19 = .ok (.aload_n 0, 1) := by decide +kernel
theorem dX7_share_20 : decode cX7_share 20 = .ok (.iload_n 1, 1) := by decide +kernel
theorem dX7_share_21 : decode cX7_share 21 = .ok (.invokevirtual 149, 3) := by decide +kernel
theorem dX7_share_24 : decode cX7_share 24 = .ok (.iand, 1) := by decide +kernel
theorem dX7_share_25 : decode cX7_share 25 = .ok (.invokestatic 113, 3) := by decide +kernel
theorem dX7_share_28 : decode cX7_share 28 = .ok (.istore_n 2, 1) := by decide +kernel
theorem dX7_share_29 : decode cX7_share 29 = .ok (.iload_n 2, 1) := by decide +kernel
theorem dX7_share_30 : decode cX7_share 30 = .ok (.ifCond .ne 8, 3) := by decide +kernel
theorem dX7_share_33 : decode cX7_share 33 = .ok (.bipush (-6), 2) := by decide +kernel
theorem dX7_share_35 : decode cX7_share 35 = .ok (.goto 28, 3) := by decide +kernel
theorem dX7_share_38 : decode cX7_share 38 = .ok (.aload_n 0, 1) := by decide +kernel
theorem dX7_share_39 : decode cX7_share 39 = .ok (.invokevirtual 137, 3) := by decide +kernel
theorem dX7_share_42 : decode cX7_share 42 = .ok (.aload_n 0, 1) := by decide +kernel
theorem dX7_share_43 : decode cX7_share 43 = .ok (.iload_n 1, 1) := by decide +kernel
theorem dX7_share_44 : decode cX7_share 44 = .ok (.invokevirtual 149, 3) := by decide +kernel
theorem dX7_share_47 : decode cX7_share 47 = .ok (.iand, 1) := by decide +kernel
theorem dX7_share_48 : decode cX7_share 48 = .ok (.aload_n 0, 1) := by decide +kernel
theorem dX7_share_49 : decode cX7_share 49 = .ok (.invokevirtual 109, 3) := by decide +kernel
theorem dX7_share_52 : decode cX7_share 52 = .ok (.iand, 1) := by decide +kernel
theorem dX7_share_53 : decode cX7_share 53 = .ok (.invokestatic 113, 3) := by decide +kernel
theorem dX7_share_56 : decode cX7_share 56 = .ok (.i2f, 1) := by decide +kernel
theorem dX7_share_57 : decode cX7_share 57 = .ok (.iload_n 2, 1) := by decide +kernel
theorem dX7_share_58 : decode cX7_share 58 = .ok (.i2f, 1) := by decide +kernel
theorem dX7_share_59 : decode cX7_share 59 = .ok (.fdiv, 1) := by decide +kernel
theorem dX7_share_60 : decode cX7_share 60 = .ok (.invokestatic 154, 3) := by decide +kernel
theorem dX7_share_63 : decode cX7_share 63 = .ok (.ireturn, 1) := by decide +kernel
set_option maxRecDepth 20000 in
theorem ggX7_layCosts_X7_look : GoodIn wsX7_layCosts wsX7_look := goodIn_r _ [9, 10, 11, 12, 8, 13, 14, 1, 2, 15, 16, 17, 18, 19, 20, 21, 22, 23, 24, 25, 26, 27, 28, 29, 30, 31, 32, 33, 34, 35, 36, 37, 38, 46, 47, 48, 49, 50, 51, 52, 53, 54, 55, 56, 57, 58, 59, 60] (by decide +kernel) (by decide +kernel)
set_option maxRecDepth 20000 in
theorem gX7_layCosts_X7_look : GoodIn wsX7_layCosts (wsV RX7 106 RX7 yX7_look wsX7_look) := goodIn_app (goodIn_of _ (by decide +kernel)) ggX7_layCosts_X7_look
set_option maxRecDepth 20000 in
theorem ggX7_layCosts_X7_in : GoodIn wsX7_layCosts wsX7_in := goodIn_r _ [41] (by decide +kernel) (by decide +kernel)
set_option maxRecDepth 20000 in
theorem gX7_layCosts_X7_in : GoodIn wsX7_layCosts (va_wsS RX7 50 yX7_in wsX7_in) := goodIn_app (goodIn_of _ (by decide +kernel)) ggX7_layCosts_X7_in
set_option maxRecDepth 20000 in
theorem ggX7_layCosts_X7_answersTo : GoodIn wsX7_layCosts wsX7_answersTo := goodIn_r _ [45, 1, 15, 16, 17, 8, 18, 46, 47, 48, 49, 50, 51, 52, 53, 54, 55, 56, 57, 58, 59, 60] (by decide +kernel) (by decide +kernel)
set_option maxRecDepth 20000 in
theorem gX7_layCosts_X7_answersTo : GoodIn wsX7_layCosts (wsV RX7 128 RX7 yX7_answersTo wsX7_answersTo) := goodIn_app (goodIn_of _ (by decide +kernel)) ggX7_layCosts_X7_answersTo
set_option maxRecDepth 20000 in
theorem ggX7_layCosts_X7_its : GoodIn wsX7_layCosts wsX7_its := goodIn_r _ [18, 1, 46, 47, 48, 49, 50, 51, 52, 53, 54, 55, 56, 57, 58, 59, 60] (by decide +kernel) (by decide +kernel)
set_option maxRecDepth 20000 in
theorem gX7_layCosts_X7_its : GoodIn wsX7_layCosts (wsV RX7 42 RX7 yX7_its wsX7_its) := goodIn_app (goodIn_of _ (by decide +kernel)) ggX7_layCosts_X7_its
theorem dX7_layCosts_0 : decode cX7_layCosts 0 = .ok (.aload_n 0, 1) := by decide +kernel
theorem dX7_layCosts_1 : decode cX7_layCosts 1 = .ok (.invokevirtual 106, 3) := by decide +kernel
theorem dX7_layCosts_4 : decode cX7_layCosts 4 = .ok (.aload_n 0, 1) := by decide +kernel
theorem dX7_layCosts_5 : decode cX7_layCosts 5 = .ok (.getfield 7, 3) := by decide +kernel
theorem dX7_layCosts_8 : decode cX7_layCosts 8 = .ok (.iconst 3, 1) := by decide +kernel
theorem dX7_layCosts_9 : decode cX7_layCosts 9 = .ok (.iaload, 1) := by decide +kernel
theorem dX7_layCosts_10 : decode cX7_layCosts 10 = .ok (.iconst 1, 1) := by decide +kernel
theorem dX7_layCosts_11 : decode cX7_layCosts 11 = .ok (.isub, 1) := by decide +kernel
theorem dX7_layCosts_12 : decode cX7_layCosts 12 = .ok (.istore_n 1, 1) := by decide +kernel
theorem dX7_layCosts_13 : decode cX7_layCosts 13 = .ok (.iload_n 1, 1) := by decide +kernel
theorem dX7_layCosts_14 : decode cX7_layCosts 14 = .ok (.ifCond .lt 164, 3) := by decide +kernel
theorem dX7_layCosts_17 : decode cX7_layCosts 17 = .ok (.aload_n 0, 1) := by decide +kernel
theorem dX7_layCosts_18 : decode cX7_layCosts 18 = .ok (.getfield 27, 3) := by decide +kernel
theorem dX7_layCosts_21 : decode cX7_layCosts 21 = .ok (.iload_n 1, 1) := by decide +kernel
theorem dX7_layCosts_22 : decode cX7_layCosts 22 = .ok (.iaload, 1) := by decide +kernel
theorem dX7_layCosts_23 : decode cX7_layCosts 23 = .ok (.iconst 1, 1) := by decide +kernel
theorem dX7_layCosts_24 : decode cX7_layCosts 24 = .ok (.iconst 4, 1) := by decide +kernel
theorem dX7_layCosts_25 : decode cX7_layCosts 25 = .ok (.invokestatic 50, 3) := by decide +kernel
theorem dX7_layCosts_28 : decode cX7_layCosts 28 = .ok (.istore_n 2, 1) := by decide +kernel
theorem dX7_layCosts_29 : decode cX7_layCosts 29 = .ok (.aload_n 0, 1) := by decide +kernel
theorem dX7_layCosts_30 : decode cX7_layCosts 30 = .ok (.iload_n 1, 1) := by decide +kernel
theorem dX7_layCosts_31 : decode cX7_layCosts 31 = .ok (.invokevirtual 128, 3) := by decide +kernel
theorem dX7_layCosts_34 : decode cX7_layCosts 34 = .ok (.ifCond .ne 7, 3) := by decide +kernel
theorem dX7_layCosts_37 : decode cX7_layCosts 37 = .ok (.iconst 1, 1) := by decide +kernel
theorem dX7_layCosts_38 : decode cX7_layCosts 38 = .ok (.goto 4, 3) := by decide +kernel
theorem dX7_layCosts_41 : decode cX7_layCosts 41 = .ok (.iconst 0, 1) := by decide +kernel
theorem dX7_layCosts_42 : decode cX7_layCosts 42 = .ok (.istore_n 3, 1) := by decide +kernel
theorem dX7_layCosts_43 : decode cX7_layCosts 43 = .ok (.iconst 0, 1) := by decide +kernel
theorem dX7_layCosts_44 : decode cX7_layCosts 44 = .ok (.istore 4, 2) := by decide +kernel
theorem dX7_layCosts_46 : decode cX7_layCosts 46 = .ok (.iload_n 3, 1) := by decide +kernel
theorem dX7_layCosts_47 : decode cX7_layCosts 47 = .ok (.ifCond .eq 7, 3) := by decide +kernel
theorem dX7_layCosts_50 : decode cX7_layCosts 50 = .ok (.iconst 1, 1) := by decide +kernel
theorem dX7_layCosts_51 : decode cX7_layCosts 51 = .ok (.goto 6, 3) := by decide +kernel
theorem dX7_layCosts_54 : decode cX7_layCosts 54 = .ok (.sipush 1000, 3) := by decide +kernel
theorem dX7_layCosts_57 : decode cX7_layCosts 57 = .ok (.istore 5, 2) := by decide +kernel
theorem dX7_layCosts_59 : decode cX7_layCosts 59 = .ok (.iload_n 1, 1) := by decide +kernel
theorem dX7_layCosts_60 : decode cX7_layCosts 60 = .ok (.iconst 1, 1) := by decide +kernel
theorem dX7_layCosts_61 : decode cX7_layCosts 61 = .ok (.iadd, 1) := by decide +kernel
theorem dX7_layCosts_62 : decode cX7_layCosts 62 = .ok (.istore 6, 2) := by decide +kernel
theorem dX7_layCosts_64 : decode cX7_layCosts 64 = .ok (.iload 6, 2) := by decide +kernel
theorem dX7_layCosts_66 : decode cX7_layCosts 66 = .ok (.aload_n 0, 1) := by decide +kernel
theorem dX7_layCosts_67 : decode cX7_layCosts 67 = .ok (.getfield 7, 3) := by decide +kernel
theorem dX7_layCosts_70 : decode cX7_layCosts 70 = .ok (.iconst 3, 1) := by decide +kernel
theorem dX7_layCosts_71 : decode cX7_layCosts 71 = .ok (.iaload, 1) := by decide +kernel
theorem dX7_layCosts_72 : decode cX7_layCosts 72 = .ok (.if_icmp .ge 58, 3) := by decide +kernel
theorem dX7_layCosts_75 : decode cX7_layCosts 75 = .ok (.aload_n 0, 1) := by decide +kernel
theorem dX7_layCosts_76 : decode cX7_layCosts 76 = .ok (.iload 6, 2) := by decide +kernel
theorem dX7_layCosts_78 : decode cX7_layCosts 78 = .ok (.iconst 4, 1) := by decide +kernel
theorem dX7_layCosts_79 : decode cX7_layCosts 79 = .ok (.invokevirtual 42, 3) := by decide +kernel
theorem dX7_layCosts_82 : decode cX7_layCosts 82 = .ok (.iload_n 1, 1) := by decide +kernel
theorem dX7_layCosts_83 : decode cX7_layCosts 83 = .ok (.if_icmp .ne 41, 3) := by decide +kernel
theorem dX7_layCosts_86 : decode cX7_layCosts 86 = .ok (.iload 4, 2) := by decide +kernel
theorem dX7_layCosts_88 : decode cX7_layCosts 88 = .ok (.aload_n 0, 1) := by decide +kernel
theorem dX7_layCosts_89 : decode cX7_layCosts 89 = .ok (.getfield 36, 3) := by decide +kernel
theorem dX7_layCosts_92 : decode cX7_layCosts 92 = .ok (.iload 6, 2) := by decide +kernel
theorem dX7_layCosts_94 : decode cX7_layCosts 94 = .ok (.iaload, 1) := by decide +kernel
theorem dX7_layCosts_95 : decode cX7_layCosts 95 = .ok (.iadd, 1) := by decide +kernel
theorem dX7_layCosts_96 : decode cX7_layCosts 96 = .ok (.istore 4, 2) := by decide +kernel
theorem dX7_layCosts_98 : decode cX7_layCosts 98 = .ok (.aload_n 0, 1) := by decide +kernel
theorem dX7_layCosts_99 : decode cX7_layCosts 99 = .ok (.getfield 33, 3) := by decide +kernel
theorem dX7_layCosts_102 : decode cX7_layCosts 102 = .ok (.iload 6, 2) := by decide +kernel
theorem dX7_layCosts_104 : decode cX7_layCosts 104 = .ok (.iaload, 1) := by decide +kernel
theorem dX7_layCosts_105 : decode cX7_layCosts 105 = .ok (.iload 5, 2) := by decide +kernel
theorem dX7_layCosts_107 : decode cX7_layCosts 107 = .ok (.if_icmp .ge 13, 3) := by decide +kernel
theorem dX7_layCosts_110 : decode cX7_layCosts 110 = .ok (.aload_n 0, 1) := by decide +kernel
theorem dX7_layCosts_111 : decode cX7_layCosts 111 = .ok (.getfield 33, 3) := by decide +kernel
theorem dX7_layCosts_114 : decode cX7_layCosts 114 = .ok (.iload 6, 2) := by decide +kernel
theorem dX7_layCosts_116 : decode cX7_layCosts 116 = .ok (.iaload, 1) := by decide +kernel
theorem dX7_layCosts_117 : decode cX7_layCosts 117 = .ok (.goto 5, 3) := by decide +kernel
theorem dX7_layCosts_120 : decode cX7_layCosts 120 = .ok (.iload 5, 2) := by decide +kernel
theorem dX7_layCosts_122 : decode cX7_layCosts 122 = .ok (.istore 5, 2) := by decide +kernel
theorem dX7_layCosts_124 : decode cX7_layCosts 124 = .ok (.iinc 6 1, 3) := by decide +kernel
theorem dX7_layCosts_127 : decode cX7_layCosts 127 = .ok (.goto (-63), 3) := by decide +kernel
theorem dX7_layCosts_130 : decode cX7_layCosts 130 = .ok (.aload_n 0, 1) := by decide +kernel
theorem dX7_layCosts_131 : decode cX7_layCosts 131 = .ok (.getfield 33, 3) := by decide +kernel
theorem dX7_layCosts_134 : decode cX7_layCosts 134 = .ok (.iload_n 1, 1) := by decide +kernel
theorem dX7_layCosts_135 : decode cX7_layCosts 135 = .ok (.iload_n 2, 1) := by decide +kernel
theorem dX7_layCosts_136 : decode cX7_layCosts 136 = .ok (.ifCond .ne 11, 3) := by decide +kernel
theorem dX7_layCosts_139 : decode cX7_layCosts 139 = .ok (.iload 4, 2) := by decide +kernel
theorem dX7_layCosts_141 : decode cX7_layCosts 141 = .ok (.sipush 1000, 3) := by decide +kernel
theorem dX7_layCosts_144 : decode cX7_layCosts 144 = .ok (.if_icmp .lt 9, 3) := by decide +kernel
theorem dX7_layCosts_147 : decode cX7_layCosts 147 = .ok (.sipush 1000, 3) := by decide +kernel
theorem dX7_layCosts_150 : decode cX7_layCosts 150 = .ok (.goto 5, 3) := by decide +kernel
theorem dX7_layCosts_153 : decode cX7_layCosts 153 = .ok (.iload 4, 2) := by decide +kernel
theorem dX7_layCosts_155 : decode cX7_layCosts 155 = .ok (.iastore, 1) := by decide +kernel
theorem dX7_layCosts_156 : decode cX7_layCosts 156 = .ok (.aload_n 0, 1) := by decide +kernel
theorem dX7_layCosts_157 : decode cX7_layCosts 157 = .ok (.getfield 36, 3) := by decide +kernel
theorem dX7_layCosts_160 : decode cX7_layCosts 160 = .ok (.iload_n 1, 1) := by decide +kernel
theorem dX7_layCosts_161 : decode cX7_layCosts 161 = .ok (.iload_n 2, 1) := by decide +kernel
theorem dX7_layCosts_162 : decode cX7_layCosts 162 = .ok (.ifCond .eq 7, 3) := by decide +kernel
theorem dX7_layCosts_165 : decode cX7_layCosts 165 = .ok (.iconst 0, 1) := by decide +kernel
theorem dX7_layCosts_166 : decode cX7_layCosts 166 = .ok (.goto 5, 3) := by decide +kernel
theorem dX7_layCosts_169 : decode cX7_layCosts 169 = .ok (.iload 5, 2) := by decide +kernel
theorem dX7_layCosts_171 : decode cX7_layCosts 171 = .ok (.iastore, 1) := by decide +kernel
theorem dX7_layCosts_172 : decode cX7_layCosts 172 = .ok (.iinc 1 (-1), 3) := by decide +kernel
theorem dX7_layCosts_175 : decode cX7_layCosts 175 = .ok (.goto (-162), 3) := by decide +kernel
theorem dX7_layCosts_178 : decode cX7_layCosts 178 = .ok (.return_, 1) := by decide +kernel
set_option maxRecDepth 20000 in
theorem ggX7_toFall_X7_isPoint : GoodIn wsX7_toFall wsX7_isPoint := goodIn_r _ [6, 7, 54, 55, 56, 57, 58, 59, 60, 61, 62, 63, 64, 65, 66, 67, 68] (by decide +kernel) (by decide +kernel)
set_option maxRecDepth 20000 in
theorem gX7_toFall_X7_isPoint : GoodIn wsX7_toFall (wsV RX7 96 RX7 yX7_isPoint wsX7_isPoint) := goodIn_app (goodIn_of _ (by decide +kernel)) ggX7_toFall_X7_isPoint
set_option maxRecDepth 20000 in
theorem ggX7_toFall_X7_layCosts : GoodIn wsX7_toFall wsX7_layCosts := goodIn_r _ [11, 7, 12, 1, 13, 14, 15, 16, 5, 17, 18, 19, 20, 21, 22, 23, 24, 25, 26, 27, 28, 29, 30, 31, 32, 33, 34, 35, 36, 37, 38, 39, 40, 41, 42, 43, 44, 45, 46, 47, 48, 49, 50, 51, 52, 53, 54, 55, 56, 57, 58, 59, 60, 61, 62, 63, 64, 65, 66, 67, 68] (by decide +kernel) (by decide +kernel)
set_option maxRecDepth 20000 in
theorem gX7_toFall_X7_layCosts : GoodIn wsX7_toFall (wsV RX7 158 RX7 yX7_layCosts wsX7_layCosts) := goodIn_app (goodIn_of _ (by decide +kernel)) ggX7_toFall_X7_layCosts
theorem dX7_toFall_0 : decode cX7_toFall 0 = .ok (.aload_n 0, 1) := by decide +kernel
theorem dX7_toFall_1 : decode cX7_toFall 1 = .ok (.iload_n 1, 1) := by decide +kernel
theorem dX7_toFall_2 : decode cX7_toFall 2 = .ok (.invokevirtual 96, 3) := by decide +kernel
theorem dX7_toFall_5 : decode cX7_toFall 5 = .ok (.ifCond .ne 5, 3) := by decide +kernel
theorem dX7_toFall_8 : decode cX7_toFall 8 = .ok (.iconst (-1), 1) := by decide +kernel
theorem dX7_toFall_9 : decode cX7_toFall 9 = .ok (.ireturn, 1) := by decide +kernel
theorem dX7_toFall_10 : decode cX7_toFall 10 = .ok (.aload_n 0, 1) := by decide +kernel
theorem dX7_toFall_11 : decode cX7_toFall 11 = .ok (.invokevirtual 158, 3) := by decide +kernel
theorem dX7_toFall_14 : decode cX7_toFall 14 = .ok (.aload_n 0, 1) := by decide +kernel
theorem dX7_toFall_15 : decode cX7_toFall 15 = .ok (.getfield 36, 3) := by decide +kernel
theorem dX7_toFall_18 : decode cX7_toFall 18 = .ok (.iload_n 1, 1) := by decide +kernel
theorem dX7_toFall_19 : decode cX7_toFall 19 = .ok (.iaload, 1) := by decide +kernel
theorem dX7_toFall_20 : decode cX7_toFall 20 = .ok (.sipush 1000, 3) := by decide +kernel
theorem dX7_toFall_23 : decode cX7_toFall 23 = .ok (.if_icmp .ne 8, 3) := by decide +kernel
theorem dX7_toFall_26 : decode cX7_toFall 26 = .ok (.bipush (-6), 2) := by decide +kernel
theorem dX7_toFall_28 : decode cX7_toFall 28 = .ok (.goto 9, 3) := by decide +kernel
theorem dX7_toFall_31 : decode cX7_toFall 31 = .ok (.aload_n 0, 1) := by decide +kernel
theorem dX7_toFall_32 : decode cX7_toFall 32 = .ok (.getfield 36, 3) := by decide +kernel
theorem dX7_toFall_35 : decode cX7_toFall 35 = .ok (.iload_n 1, 1) := by decide +kernel
theorem dX7_toFall_36 : decode cX7_toFall 36 = .ok (.iaload, 1) := by decide +kernel
theorem dX7_toFall_37 : decode cX7_toFall 37 = .ok (.ireturn, 1) := by decide +kernel
set_option maxRecDepth 20000 in
theorem ggX7_toStand_X7_isPoint : GoodIn wsX7_toStand wsX7_isPoint := goodIn_r _ [7, 8, 54, 55, 56, 57, 58, 59, 60, 61, 62, 63, 64, 65, 66, 67, 68] (by decide +kernel) (by decide +kernel)
set_option maxRecDepth 20000 in
theorem gX7_toStand_X7_isPoint : GoodIn wsX7_toStand (wsV RX7 96 RX7 yX7_isPoint wsX7_isPoint) := goodIn_app (goodIn_of _ (by decide +kernel)) ggX7_toStand_X7_isPoint
set_option maxRecDepth 20000 in
theorem ggX7_toStand_X7_layCosts : GoodIn wsX7_toStand wsX7_layCosts := goodIn_r _ [12, 8, 1, 13, 2, 14, 15, 16, 6, 17, 18, 19, 20, 21, 22, 23, 24, 25, 26, 27, 28, 29, 30, 31, 32, 33, 34, 35, 36, 37, 38, 39, 40, 41, 42, 43, 44, 45, 46, 47, 48, 49, 50, 51, 52, 53, 54, 55, 56, 57, 58, 59, 60, 61, 62, 63, 64, 65, 66, 67, 68] (by decide +kernel) (by decide +kernel)
set_option maxRecDepth 20000 in
theorem gX7_toStand_X7_layCosts : GoodIn wsX7_toStand (wsV RX7 158 RX7 yX7_layCosts wsX7_layCosts) := goodIn_app (goodIn_of _ (by decide +kernel)) ggX7_toStand_X7_layCosts
set_option maxRecDepth 20000 in
theorem ggX7_toStand_X7_in : GoodIn wsX7_toStand wsX7_in := goodIn_r _ [49] (by decide +kernel) (by decide +kernel)
set_option maxRecDepth 20000 in
theorem gX7_toStand_X7_in : GoodIn wsX7_toStand (va_wsS RX7 50 yX7_in wsX7_in) := goodIn_app (goodIn_of _ (by decide +kernel)) ggX7_toStand_X7_in
theorem dX7_toStand_0 : decode cX7_toStand 0 = .ok (.aload_n 0, 1) := by decide +kernel
theorem dX7_toStand_1 : decode cX7_toStand 1 = .ok (.iload_n 1, 1) := by decide +kernel
theorem dX7_toStand_2 : decode cX7_toStand 2 = .ok (.invokevirtual 96, 3) := by decide +kernel
theorem dX7_toStand_5 : decode cX7_toStand 5 = .ok (.ifCond .ne 5, 3) := by decide +kernel
theorem dX7_toStand_8 : decode cX7_toStand 8 = .ok (.iconst (-1), 1) := by decide +kernel
theorem dX7_toStand_9 : decode cX7_toStand 9 = .ok (.ireturn, 1) := by decide +kernel
theorem dX7_toStand_10 : decode cX7_toStand 10 = .ok (.aload_n 0, 1) := by decide +kernel
theorem dX7_toStand_11 : decode cX7_toStand 11 = .ok (.invokevirtual 158, 3) := by decide +kernel
theorem dX7_toStand_14 : decode cX7_toStand 14 = .ok (.aload_n 0, 1) := by decide +kernel
theorem dX7_toStand_15 : decode cX7_toStand 15 = .ok (.getfield 27, 3) := by decide +kernel
theorem dX7_toStand_18 : decode cX7_toStand 18 = .ok (.iload_n 1, 1) := by decide +kernel
theorem dX7_toStand_19 : decode cX7_toStand 19 = .ok (.iaload, 1) := by decide +kernel
theorem dX7_toStand_20 : decode cX7_toStand 20 = .ok (.iconst 1, 1) := by decide +kernel
theorem dX7_toStand_21 : decode cX7_toStand 21 = .ok (.iconst 4, 1) := by decide +kernel
theorem dX7_toStand_22 : decode cX7_toStand 22 = .ok (.invokestatic 50, 3) := by decide +kernel
theorem dX7_toStand_25 : decode cX7_toStand 25 = .ok (.ifCond .eq 6, 3) := by decide +kernel
theorem dX7_toStand_28 : decode cX7_toStand 28 = .ok (.bipush (-5), 2) := by decide +kernel
theorem dX7_toStand_30 : decode cX7_toStand 30 = .ok (.ireturn, 1) := by decide +kernel
theorem dX7_toStand_31 : decode cX7_toStand 31 = .ok (.aload_n 0, 1) := by decide +kernel
theorem dX7_toStand_32 : decode cX7_toStand 32 = .ok (.getfield 33, 3) := by decide +kernel
theorem dX7_toStand_35 : decode cX7_toStand 35 = .ok (.iload_n 1, 1) := by decide +kernel
theorem dX7_toStand_36 : decode cX7_toStand 36 = .ok (.iaload, 1) := by decide +kernel
theorem dX7_toStand_37 : decode cX7_toStand 37 = .ok (.sipush 1000, 3) := by decide +kernel
theorem dX7_toStand_40 : decode cX7_toStand 40 = .ok (.if_icmp .ne 8, 3) := by decide +kernel
theorem dX7_toStand_43 : decode cX7_toStand 43 = .ok (.bipush (-6), 2) := by decide +kernel
theorem dX7_toStand_45 : decode cX7_toStand 45 = .ok (.goto 9, 3) := by decide +kernel
theorem dX7_toStand_48 : decode cX7_toStand 48 = .ok (.aload_n 0, 1) := by decide +kernel
theorem dX7_toStand_49 : decode cX7_toStand 49 = .ok (.getfield 33, 3) := by decide +kernel
theorem dX7_toStand_52 : decode cX7_toStand 52 = .ok (.iload_n 1, 1) := by decide +kernel
theorem dX7_toStand_53 : decode cX7_toStand 53 = .ok (.iaload, 1) := by decide +kernel
theorem dX7_toStand_54 : decode cX7_toStand 54 = .ok (.ireturn, 1) := by decide +kernel
set_option maxRecDepth 20000 in
theorem ggX7_changesBy_X7_look : GoodIn wsX7_changesBy wsX7_look := goodIn_r _ [5, 6, 7, 8, 4, 9, 10, 11, 12, 13, 14, 15, 16, 17, 18, 19, 20, 21, 22, 23, 24, 25, 26, 27, 28, 29, 30, 31, 32, 33, 34, 35, 36, 48, 49, 50, 51, 52, 53, 54, 55, 56, 57, 58, 59, 60, 61, 62] (by decide +kernel) (by decide +kernel)
set_option maxRecDepth 20000 in
theorem gX7_changesBy_X7_look : GoodIn wsX7_changesBy (wsV RX7 106 RX7 yX7_look wsX7_look) := goodIn_app (goodIn_of _ (by decide +kernel)) ggX7_changesBy_X7_look
set_option maxRecDepth 20000 in
theorem ggX7_changesBy_X7_standing : GoodIn wsX7_changesBy wsX7_standing := goodIn_r _ [40, 11, 12, 48, 49, 50, 51, 52, 53, 54, 55, 56, 57, 58, 59, 60, 61, 62] (by decide +kernel) (by decide +kernel)
set_option maxRecDepth 20000 in
theorem gX7_changesBy_X7_standing : GoodIn wsX7_changesBy (wsV RX7 109 RX7 yX7_standing wsX7_standing) := goodIn_app (goodIn_of _ (by decide +kernel)) ggX7_changesBy_X7_standing
set_option maxRecDepth 20000 in
theorem ggX7_changesBy_X7_claims : GoodIn wsX7_changesBy wsX7_claims := goodIn_r _ [44, 11, 25, 26, 27, 4, 28, 13, 14, 15, 16, 48, 49, 50, 51, 52, 53, 54, 55, 56, 57, 58, 59, 60, 61, 62] (by decide +kernel) (by decide +kernel)
set_option maxRecDepth 20000 in
theorem gX7_changesBy_X7_claims : GoodIn wsX7_changesBy (wsV RX7 137 RX7 yX7_claims wsX7_claims) := goodIn_app (goodIn_of _ (by decide +kernel)) ggX7_changesBy_X7_claims
set_option maxRecDepth 20000 in
theorem ggX7_changesBy_X7_layOut : GoodIn wsX7_changesBy wsX7_layOut := goodIn_r _ [9, 10, 11, 12, 13, 14, 15, 4, 16, 17, 18, 19, 20, 21, 22, 23, 24, 25, 26, 27, 28, 29, 30, 31, 32, 48, 49, 50, 51, 52, 53, 54, 55, 56, 57, 58, 59, 60, 61, 62] (by decide +kernel) (by decide +kernel)
set_option maxRecDepth 20000 in
theorem gX7_changesBy_X7_layOut : GoodIn wsX7_changesBy (wsV RX7 70 RX7 yX7_layOut wsX7_layOut) := goodIn_app (goodIn_of _ (by decide +kernel)) ggX7_changesBy_X7_layOut
set_option maxRecDepth 20000 in
theorem ggX7_changesBy_X7_layAnswered : GoodIn wsX7_changesBy wsX7_layAnswered := goodIn_r _ [36, 11, 12, 13, 14, 15, 4, 16, 48, 49, 50, 51, 52, 53, 54, 55, 56, 57, 58, 59, 60, 61, 62] (by decide +kernel) (by decide +kernel)
set_option maxRecDepth 20000 in
theorem gX7_changesBy_X7_layAnswered : GoodIn wsX7_changesBy (wsV RX7 73 RX7 yX7_layAnswered wsX7_layAnswered) := goodIn_app (goodIn_of _ (by decide +kernel)) ggX7_changesBy_X7_layAnswered
set_option maxRecDepth 20000 in
theorem ggX7_changesBy_X7_bits : GoodIn wsX7_changesBy wsX7_bits := goodIn_r _ [47] (by decide +kernel) (by decide +kernel)
set_option maxRecDepth 20000 in
theorem gX7_changesBy_X7_bits : GoodIn wsX7_changesBy (va_wsS RX7 113 yX7_bits wsX7_bits) := goodIn_app (goodIn_of _ (by decide +kernel)) ggX7_changesBy_X7_bits
theorem dX7_changesBy_0 : decode cX7_changesBy 0 = .ok (.aload_n 0, 1) := by decide +kernel
theorem dX7_changesBy_1 : decode cX7_changesBy 1 = .ok (.invokevirtual 106, 3) := by decide +kernel
theorem dX7_changesBy_4 : decode cX7_changesBy 4 = .ok (.aload_n 0, 1) := by decide +kernel
theorem dX7_changesBy_5 : decode cX7_changesBy 5 = .ok (.invokevirtual 109, 3) := by decide +kernel
theorem dX7_changesBy_8 : decode cX7_changesBy 8 = .ok (.aload_n 0, 1) := by decide +kernel
theorem dX7_changesBy_9 : decode cX7_changesBy 9 = .ok (.invokevirtual 137, 3) := by decide +kernel
theorem dX7_changesBy_12 : decode cX7_changesBy 12 = .ok (.iand, 1) := by decide +kernel
theorem dX7_changesBy_13 : decode cX7_changesBy 13 = .ok (.istore_n 2, 1) := by decide +kernel
theorem dX7_changesBy_14 : decode cX7_changesBy 14 = .ok (.aload_n 0, 1) := by decide +kernel
theorem dX7_changesBy_15 : decode cX7_changesBy 15 = .ok (.invokevirtual 70, 3) := by decide +kernel
theorem dX7_changesBy_18 : decode cX7_changesBy 18 = .ok (.aload_n 0, 1) := by decide +kernel
theorem dX7_changesBy_19 : decode cX7_changesBy 19 = .ok (.iload_n 1, 1) := by decide +kernel
theorem dX7_changesBy_20 : decode cX7_changesBy 20 = .ok (.invokevirtual 73, 3) := by decide +kernel
theorem dX7_changesBy_23 : decode cX7_changesBy 23 = .ok (.iload_n 2, 1) := by decide +kernel
theorem dX7_changesBy_24 : decode cX7_changesBy 24 = .ok (.aload_n 0, 1) := by decide +kernel
theorem dX7_changesBy_25 : decode cX7_changesBy 25 = .ok (.invokevirtual 109, 3) := by decide +kernel
theorem dX7_changesBy_28 : decode cX7_changesBy 28 = .ok (.aload_n 0, 1) := by decide +kernel
theorem dX7_changesBy_29 : decode cX7_changesBy 29 = .ok (.invokevirtual 137, 3) := by decide +kernel
theorem dX7_changesBy_32 : decode cX7_changesBy 32 = .ok (.iand, 1) := by decide +kernel
theorem dX7_changesBy_33 : decode cX7_changesBy 33 = .ok (.ixor, 1) := by decide +kernel
theorem dX7_changesBy_34 : decode cX7_changesBy 34 = .ok (.invokestatic 113, 3) := by decide +kernel
theorem dX7_changesBy_37 : decode cX7_changesBy 37 = .ok (.ireturn, 1) := by decide +kernel
set_option maxRecDepth 20000 in
theorem ggX7_bestAnswer_X7_in : GoodIn wsX7_bestAnswer wsX7_in := goodIn_r _ [6] (by decide +kernel) (by decide +kernel)
set_option maxRecDepth 20000 in
theorem gX7_bestAnswer_X7_in : GoodIn wsX7_bestAnswer (va_wsS RX7 50 yX7_in wsX7_in) := goodIn_app (goodIn_of _ (by decide +kernel)) ggX7_bestAnswer_X7_in
set_option maxRecDepth 20000 in
theorem ggX7_bestAnswer_X7_look : GoodIn wsX7_bestAnswer wsX7_look := goodIn_r _ [10, 11, 12, 13, 5, 14, 15, 1, 2, 16, 17, 18, 19, 20, 21, 22, 23, 24, 25, 26, 27, 28, 29, 30, 31, 32, 33, 34, 35, 36, 37, 38, 39, 59, 60, 61, 62, 63, 64, 65, 66, 67, 68, 69, 70, 71, 72, 73] (by decide +kernel) (by decide +kernel)
set_option maxRecDepth 20000 in
theorem gX7_bestAnswer_X7_look : GoodIn wsX7_bestAnswer (wsV RX7 106 RX7 yX7_look wsX7_look) := goodIn_app (goodIn_of _ (by decide +kernel)) ggX7_bestAnswer_X7_look
set_option maxRecDepth 20000 in
theorem ggX7_bestAnswer_X7_answersTo : GoodIn wsX7_bestAnswer wsX7_answersTo := goodIn_r _ [43, 1, 16, 17, 18, 5, 19, 59, 60, 61, 62, 63, 64, 65, 66, 67, 68, 69, 70, 71, 72, 73] (by decide +kernel) (by decide +kernel)
set_option maxRecDepth 20000 in
theorem gX7_bestAnswer_X7_answersTo : GoodIn wsX7_bestAnswer (wsV RX7 128 RX7 yX7_answersTo wsX7_answersTo) := goodIn_app (goodIn_of _ (by decide +kernel)) ggX7_bestAnswer_X7_answersTo
set_option maxRecDepth 20000 in
theorem ggX7_bestAnswer_X7_changesBy : GoodIn wsX7_bestAnswer wsX7_changesBy := goodIn_r _ [47, 7, 8, 9, 5, 10, 11, 12, 13, 14, 15, 1, 2, 16, 17, 18, 19, 20, 21, 22, 23, 24, 25, 26, 27, 28, 29, 30, 31, 32, 33, 34, 35, 36, 37, 38, 39, 48, 49, 50, 51, 52, 53, 54, 55, 56, 57, 58, 59, 60, 61, 62, 63, 64, 65, 66, 67, 68, 69, 70, 71, 72, 73] (by decide +kernel) (by decide +kernel)
set_option maxRecDepth 20000 in
theorem gX7_bestAnswer_X7_changesBy : GoodIn wsX7_bestAnswer (wsV RX7 161 RX7 yX7_changesBy wsX7_changesBy) := goodIn_app (goodIn_of _ (by decide +kernel)) ggX7_bestAnswer_X7_changesBy
theorem dX7_bestAnswer_0 : decode cX7_bestAnswer 0 = .ok (.iload_n 1, 1) := by decide +kernel
theorem dX7_bestAnswer_1 : decode cX7_bestAnswer 1 = .ok (.iconst 0, 1) := by decide +kernel
theorem dX7_bestAnswer_2 : decode cX7_bestAnswer 2 = .ok (.iconst 1, 1) := by decide +kernel
theorem dX7_bestAnswer_3 : decode cX7_bestAnswer 3 = .ok (.invokestatic 50, 3) := by decide +kernel
theorem dX7_bestAnswer_6 : decode cX7_bestAnswer 6 = .ok (.ifCond .ne 6, 3) := by decide +kernel
theorem dX7_bestAnswer_9 : decode cX7_bestAnswer 9 = .ok (.bipush (-2), 2) := by decide +kernel
theorem dX7_bestAnswer_11 : decode cX7_bestAnswer 11 = .ok (.ireturn, 1) := by decide +kernel
theorem dX7_bestAnswer_12 : decode cX7_bestAnswer 12 = .ok (.bipush (-6), 2) := by decide +kernel
theorem dX7_bestAnswer_14 : decode cX7_bestAnswer 14 = .ok (.istore_n 2, 1) := by decide +kernel
theorem dX7_bestAnswer_15 : decode cX7_bestAnswer 15 = .ok (.bipush (-6), 2) := by decide +kernel
theorem dX7_bestAnswer_17 : decode cX7_bestAnswer 17 = .ok (.istore_n 3, 1) := by decide +kernel
theorem dX7_bestAnswer_18 : decode cX7_bestAnswer 18 = .ok (.iconst 0, 1) := by decide +kernel
theorem dX7_bestAnswer_19 : decode cX7_bestAnswer 19 = .ok (.istore 4, 2) := by decide +kernel
theorem dX7_bestAnswer_21 : decode cX7_bestAnswer 21 = .ok (.iload 4, 2) := by decide +kernel
theorem dX7_bestAnswer_23 : decode cX7_bestAnswer 23 = .ok (.aload_n 0, 1) := by decide +kernel
theorem dX7_bestAnswer_24 : decode cX7_bestAnswer 24 = .ok (.getfield 7, 3) := by decide +kernel
theorem dX7_bestAnswer_27 : decode cX7_bestAnswer 27 = .ok (.iconst 3, 1) := by decide +kernel
theorem dX7_bestAnswer_28 : decode cX7_bestAnswer 28 = .ok (.iaload, 1) := by decide +kernel
theorem dX7_bestAnswer_29 : decode cX7_bestAnswer 29 = .ok (.if_icmp .ge 71, 3) := by decide +kernel
theorem dX7_bestAnswer_32 : decode cX7_bestAnswer 32 = .ok (.aload_n 0, 1) := by decide +kernel
theorem dX7_bestAnswer_33 : decode cX7_bestAnswer 33 = .ok (.invokevirtual 106, 3) := by decide +kernel
theorem dX7_bestAnswer_36 : decode cX7_bestAnswer 36 = .ok (.aload_n 0, 1) := by decide +kernel
theorem dX7_bestAnswer_37 : decode cX7_bestAnswer 37 = .ok (.getfield 27, 3) := by decide +kernel
theorem dX7_bestAnswer_40 : decode cX7_bestAnswer 40 = .ok (.iload 4, 2) := by decide +kernel
theorem dX7_bestAnswer_42 : decode cX7_bestAnswer 42 = .ok (.iaload, 1) := by decide +kernel
theorem dX7_bestAnswer_43 : decode cX7_bestAnswer 43 = .ok (.iconst 1, 1) := by decide +kernel
theorem dX7_bestAnswer_44 : decode cX7_bestAnswer 44 = .ok (.iconst 4, 1) := by decide +kernel
theorem dX7_bestAnswer_45 : decode cX7_bestAnswer 45 = .ok (.invokestatic 50, 3) := by decide +kernel
theorem dX7_bestAnswer_48 : decode cX7_bestAnswer 48 = .ok (.ifCond .ne 46, 3) := by decide +kernel
theorem dX7_bestAnswer_51 : decode cX7_bestAnswer 51 = .ok (.aload_n 0, 1) := by decide +kernel
theorem dX7_bestAnswer_52 : decode cX7_bestAnswer 52 = .ok (.iload 4, 2) := by decide +kernel
theorem dX7_bestAnswer_54 : decode cX7_bestAnswer 54 = .ok (.invokevirtual 128, 3) := by decide +kernel
theorem dX7_bestAnswer_57 : decode cX7_bestAnswer 57 = .ok (.ifCond .ne 37, 3) := by decide +kernel
theorem dX7_bestAnswer_60 : decode cX7_bestAnswer 60 = .ok (.aload_n 0, 1) := by decide +kernel
theorem dX7_bestAnswer_61 : decode cX7_bestAnswer 61 = .ok (.iload 4, 2) := by decide +kernel
theorem dX7_bestAnswer_63 : decode cX7_bestAnswer 63 = .ok (.invokevirtual 161, 3) := by decide +kernel
theorem dX7_bestAnswer_66 : decode cX7_bestAnswer 66 = .ok (.istore 5, 2) := by decide +kernel
theorem dX7_bestAnswer_68 : decode cX7_bestAnswer 68 = .ok (.iload 5, 2) := by decide +kernel
theorem dX7_bestAnswer_70 : decode cX7_bestAnswer 70 = .ok (.iload_n 3, 1) := by decide +kernel
theorem dX7_bestAnswer_71 : decode cX7_bestAnswer 71 = .ok (.if_icmp .le 8, 3) := by decide +kernel
theorem dX7_bestAnswer_74 : decode cX7_bestAnswer 74 = .ok (.iload 4, 2) := by decide +kernel
theorem dX7_bestAnswer_76 : decode cX7_bestAnswer 76 = .ok (.goto 4, 3) := by decide +kernel
theorem dX7_bestAnswer_79 : decode cX7_bestAnswer 79 = .ok (.iload_n 2, 1) := by decide +kernel
theorem dX7_bestAnswer_80 : decode cX7_bestAnswer 80 = .ok (.istore_n 2, 1) := by decide +kernel
theorem dX7_bestAnswer_81 : decode cX7_bestAnswer 81 = .ok (.iload 5, 2) := by decide +kernel
theorem dX7_bestAnswer_83 : decode cX7_bestAnswer 83 = .ok (.iload_n 3, 1) := by decide +kernel
theorem dX7_bestAnswer_84 : decode cX7_bestAnswer 84 = .ok (.if_icmp .le 8, 3) := by decide +kernel
theorem dX7_bestAnswer_87 : decode cX7_bestAnswer 87 = .ok (.iload 5, 2) := by decide +kernel
theorem dX7_bestAnswer_89 : decode cX7_bestAnswer 89 = .ok (.goto 4, 3) := by decide +kernel
theorem dX7_bestAnswer_92 : decode cX7_bestAnswer 92 = .ok (.iload_n 3, 1) := by decide +kernel
theorem dX7_bestAnswer_93 : decode cX7_bestAnswer 93 = .ok (.istore_n 3, 1) := by decide +kernel
theorem dX7_bestAnswer_94 : decode cX7_bestAnswer 94 = .ok (.iinc 4 1, 3) := by decide +kernel
theorem dX7_bestAnswer_97 : decode cX7_bestAnswer 97 = .ok (.goto (-76), 3) := by decide +kernel
theorem dX7_bestAnswer_100 : decode cX7_bestAnswer 100 = .ok (.iload_n 1, 1) := by decide +kernel
theorem dX7_bestAnswer_101 : decode cX7_bestAnswer 101 = .ok (.ifCond .ne 7, 3) := by decide +kernel
theorem dX7_bestAnswer_104 : decode cX7_bestAnswer 104 = .ok (.iload_n 2, 1) := by decide +kernel
theorem dX7_bestAnswer_105 : decode cX7_bestAnswer 105 = .ok (.goto 4, 3) := by decide +kernel
theorem dX7_bestAnswer_108 : decode cX7_bestAnswer 108 = .ok (.iload_n 3, 1) := by decide +kernel
theorem dX7_bestAnswer_109 : decode cX7_bestAnswer 109 = .ok (.ireturn, 1) := by decide +kernel
set_option maxRecDepth 20000 in
theorem ggX7_changesIn_X7_look : GoodIn wsX7_changesIn wsX7_look := goodIn_r _ [6, 7, 8, 9, 5, 10, 11, 1, 12, 13, 14, 15, 16, 17, 18, 19, 20, 21, 22, 23, 24, 25, 26, 27, 28, 29, 30, 31, 32, 33, 34, 35, 36, 41, 42, 43, 44, 45, 46, 47, 48, 49, 50, 51, 52, 53, 54, 55] (by decide +kernel) (by decide +kernel)
set_option maxRecDepth 20000 in
theorem gX7_changesIn_X7_look : GoodIn wsX7_changesIn (wsV RX7 106 RX7 yX7_look wsX7_look) := goodIn_app (goodIn_of _ (by decide +kernel)) ggX7_changesIn_X7_look
set_option maxRecDepth 20000 in
theorem ggX7_changesIn_X7_standing : GoodIn wsX7_changesIn wsX7_standing := goodIn_r _ [40, 1, 12, 41, 42, 43, 44, 45, 46, 47, 48, 49, 50, 51, 52, 53, 54, 55] (by decide +kernel) (by decide +kernel)
set_option maxRecDepth 20000 in
theorem gX7_changesIn_X7_standing : GoodIn wsX7_changesIn (wsV RX7 109 RX7 yX7_standing wsX7_standing) := goodIn_app (goodIn_of _ (by decide +kernel)) ggX7_changesIn_X7_standing
theorem dX7_changesIn_0 : decode cX7_changesIn 0 = .ok (.aload_n 0, 1) := by decide +kernel
theorem dX7_changesIn_1 : decode cX7_changesIn 1 = .ok (.invokevirtual 106, 3) := by decide +kernel
theorem dX7_changesIn_4 : decode cX7_changesIn 4 = .ok (.aload_n 0, 1) := by decide +kernel
theorem dX7_changesIn_5 : decode cX7_changesIn 5 = .ok (.invokevirtual 109, 3) := by decide +kernel
theorem dX7_changesIn_8 : decode cX7_changesIn 8 = .ok (.istore_n 1, 1) := by decide +kernel
theorem dX7_changesIn_9 : decode cX7_changesIn 9 = .ok (.aload_n 0, 1) := by decide +kernel
theorem dX7_changesIn_10 : decode cX7_changesIn 10 = .ok (.getfield 7, 3) := by decide +kernel
theorem dX7_changesIn_13 : decode cX7_changesIn 13 = .ok (.iconst 2, 1) := by decide +kernel
theorem dX7_changesIn_14 : decode cX7_changesIn 14 = .ok (.iaload, 1) := by decide +kernel
theorem dX7_changesIn_15 : decode cX7_changesIn 15 = .ok (.istore_n 2, 1) := by decide +kernel
theorem dX7_changesIn_16 : decode cX7_changesIn 16 = .ok (.bipush (-6), 2) := by decide +kernel
theorem dX7_changesIn_18 : decode cX7_changesIn 18 = .ok (.istore_n 3, 1) := by decide +kernel
theorem dX7_changesIn_19 : decode cX7_changesIn 19 = .ok (.iconst 1, 1) := by decide +kernel
theorem dX7_changesIn_20 : decode cX7_changesIn 20 = .ok (.istore 4, 2) := by decide +kernel
theorem dX7_changesIn_22 : decode cX7_changesIn 22 = .ok (.iload 4, 2) := by decide +kernel
theorem dX7_changesIn_24 : decode cX7_changesIn 24 = .ok (.bipush 100, 2) := by decide +kernel
theorem dX7_changesIn_26 : decode cX7_changesIn 26 = .ok (.if_icmp .gt 45, 3) := by decide +kernel
theorem dX7_changesIn_29 : decode cX7_changesIn 29 = .ok (.iload_n 3, 1) := by decide +kernel
theorem dX7_changesIn_30 : decode cX7_changesIn 30 = .ok (.bipush (-6), 2) := by decide +kernel
theorem dX7_changesIn_32 : decode cX7_changesIn 32 = .ok (.if_icmp .ne 39, 3) := by decide +kernel
theorem dX7_changesIn_35 : decode cX7_changesIn 35 = .ok (.aload_n 0, 1) := by decide +kernel
theorem dX7_changesIn_36 : decode cX7_changesIn 36 = .ok (.getfield 7, 3) := by decide +kernel
theorem dX7_changesIn_39 : decode cX7_changesIn 39 = .ok (.iconst 2, 1) := by decide +kernel
theorem dX7_changesIn_40 : decode cX7_changesIn 40 = .ok (.dup2, 1) := by decide +kernel
theorem dX7_changesIn_41 : decode cX7_changesIn 41 = .ok (.iaload, 1) := by decide +kernel
theorem dX7_changesIn_42 : decode cX7_changesIn 42 = .ok (.iconst 1, 1) := by decide +kernel
theorem dX7_changesIn_43 : decode cX7_changesIn 43 = .ok (.iadd, 1) := by decide +kernel
theorem dX7_changesIn_44 : decode cX7_changesIn 44 = .ok (.iastore, 1) := by decide +kernel
theorem dX7_changesIn_45 : decode cX7_changesIn 45 = .ok (.aload_n 0, 1) := by decide +kernel
theorem dX7_changesIn_46 : decode cX7_changesIn 46 = .ok (.invokevirtual 106, 3) := by decide +kernel
theorem dX7_changesIn_49 : decode cX7_changesIn 49 = .ok (.aload_n 0, 1) := by decide +kernel
theorem dX7_changesIn_50 : decode cX7_changesIn 50 = .ok (.invokevirtual 109, 3) := by decide +kernel
theorem dX7_changesIn_53 : decode cX7_changesIn 53 = .ok (.iload_n 1, 1) := by decide +kernel
theorem dX7_changesIn_54 : decode cX7_changesIn 54 = .ok (.if_icmp .ne 8, 3) := by decide +kernel
theorem dX7_changesIn_57 : decode cX7_changesIn 57 = .ok (.bipush (-6), 2) := by decide +kernel
theorem dX7_changesIn_59 : decode cX7_changesIn 59 = .ok (.goto 5, 3) := by decide +kernel
theorem dX7_changesIn_62 : decode cX7_changesIn 62 = .ok (.iload 4, 2) := by decide +kernel
theorem dX7_changesIn_64 : decode cX7_changesIn 64 = .ok (.istore_n 3, 1) := by decide +kernel
theorem dX7_changesIn_65 : decode cX7_changesIn 65 = .ok (.iinc 4 1, 3) := by decide +kernel
theorem dX7_changesIn_68 : decode cX7_changesIn 68 = .ok (.goto (-46), 3) := by decide +kernel
theorem dX7_changesIn_71 : decode cX7_changesIn 71 = .ok (.aload_n 0, 1) := by decide +kernel
theorem dX7_changesIn_72 : decode cX7_changesIn 72 = .ok (.getfield 7, 3) := by decide +kernel
theorem dX7_changesIn_75 : decode cX7_changesIn 75 = .ok (.iconst 2, 1) := by decide +kernel
theorem dX7_changesIn_76 : decode cX7_changesIn 76 = .ok (.iload_n 2, 1) := by decide +kernel
theorem dX7_changesIn_77 : decode cX7_changesIn 77 = .ok (.iastore, 1) := by decide +kernel
theorem dX7_changesIn_78 : decode cX7_changesIn 78 = .ok (.iload_n 3, 1) := by decide +kernel
theorem dX7_changesIn_79 : decode cX7_changesIn 79 = .ok (.ireturn, 1) := by decide +kernel
set_option maxRecDepth 20000 in
theorem ggX7_leastPages_X7_its : GoodIn wsX7_leastPages wsX7_its := goodIn_r _ [6, 1, 11, 12, 13, 14, 15, 16, 17, 18, 19, 20, 21, 22, 23, 24, 25] (by decide +kernel) (by decide +kernel)
set_option maxRecDepth 20000 in
theorem gX7_leastPages_X7_its : GoodIn wsX7_leastPages (wsV RX7 42 RX7 yX7_its wsX7_its) := goodIn_app (goodIn_of _ (by decide +kernel)) ggX7_leastPages_X7_its
set_option maxRecDepth 20000 in
theorem ggX7_leastPages_X7_isWithdrawn : GoodIn wsX7_leastPages wsX7_isWithdrawn := goodIn_r _ [10, 2, 3, 4, 5, 6, 1, 11, 12, 13, 14, 15, 16, 17, 18, 19, 20, 21, 22, 23, 24, 25] (by decide +kernel) (by decide +kernel)
set_option maxRecDepth 20000 in
theorem gX7_leastPages_X7_isWithdrawn : GoodIn wsX7_leastPages (wsV RX7 61 RX7 yX7_isWithdrawn wsX7_isWithdrawn) := goodIn_app (goodIn_of _ (by decide +kernel)) ggX7_leastPages_X7_isWithdrawn
theorem dX7_leastPages_0 : decode cX7_leastPages 0 = .ok (.iconst 1, 1) := by decide +kernel
theorem dX7_leastPages_1 : decode cX7_leastPages 1 = .ok (.istore_n 1, 1) := by decide +kernel
theorem dX7_leastPages_2 : decode cX7_leastPages 2 = .ok (.iconst 0, 1) := by decide +kernel
theorem dX7_leastPages_3 : decode cX7_leastPages 3 = .ok (.istore_n 2, 1) := by decide +kernel
theorem dX7_leastPages_4 : decode cX7_leastPages 4 = .ok (.iload_n 2, 1) := by decide +kernel
theorem dX7_leastPages_5 : decode cX7_leastPages 5 = .ok (.iconst 2, 1) := by decide +kernel
theorem dX7_leastPages_6 : decode cX7_leastPages 6 = .ok (.if_icmp .ge 76, 3) := by decide +kernel
theorem dX7_leastPages_9 : decode cX7_leastPages 9 = .ok (.iconst 0, 1) := by decide +kernel
theorem dX7_leastPages_10 : decode cX7_leastPages 10 = .ok (.istore_n 3, 1) := by decide +kernel
theorem dX7_leastPages_11 : decode cX7_leastPages 11 = .ok (.iconst 0, 1) := by decide +kernel
theorem dX7_leastPages_12 : decode cX7_leastPages 12 = .ok (.istore 4, 2) := by decide +kernel
theorem dX7_leastPages_14 : decode cX7_leastPages 14 = .ok (.iload 4, 2) := by decide +kernel
theorem dX7_leastPages_16 : decode cX7_leastPages 16 = .ok (.aload_n 0, 1) := by decide +kernel
theorem dX7_leastPages_17 : decode cX7_leastPages 17 = .ok (.getfield 7, 3) := by decide +kernel
theorem dX7_leastPages_20 : decode cX7_leastPages 20 = .ok (.iconst 3, 1) := by decide +kernel
theorem dX7_leastPages_21 : decode cX7_leastPages 21 = .ok (.iaload, 1) := by decide +kernel
theorem dX7_leastPages_22 : decode cX7_leastPages 22 = .ok (.if_icmp .ge 43, 3) := by decide +kernel
theorem dX7_leastPages_25 : decode cX7_leastPages 25 = .ok (.iload_n 3, 1) := by decide +kernel
theorem dX7_leastPages_26 : decode cX7_leastPages 26 = .ok (.aload_n 0, 1) := by decide +kernel
theorem dX7_leastPages_27 : decode cX7_leastPages 27 = .ok (.iload 4, 2) := by decide +kernel
theorem dX7_leastPages_29 : decode cX7_leastPages 29 = .ok (.iconst 0, 1) := by decide +kernel
theorem dX7_leastPages_30 : decode cX7_leastPages 30 = .ok (.invokevirtual 42, 3) := by decide +kernel
theorem dX7_leastPages_33 : decode cX7_leastPages 33 = .ok (.iload_n 2, 1) := by decide +kernel
theorem dX7_leastPages_34 : decode cX7_leastPages 34 = .ok (.if_icmp .ne 22, 3) := by decide +kernel
theorem dX7_leastPages_37 : decode cX7_leastPages 37 = .ok (.aload_n 0, 1) := by decide +kernel
theorem dX7_leastPages_38 : decode cX7_leastPages 38 = .ok (.iload 4, 2) := by decide +kernel
theorem dX7_leastPages_40 : decode cX7_leastPages 40 = .ok (.invokevirtual 61, 3) := by decide +kernel
theorem dX7_leastPages_43 : decode cX7_leastPages 43 = .ok (.ifCond .ne 13, 3) := by decide +kernel
theorem dX7_leastPages_46 : decode cX7_leastPages 46 = .ok (.aload_n 0, 1) := by decide +kernel
theorem dX7_leastPages_47 : decode cX7_leastPages 47 = .ok (.iload 4, 2) := by decide +kernel
theorem dX7_leastPages_49 : decode cX7_leastPages 49 = .ok (.iconst 1, 1) := by decide +kernel
theorem dX7_leastPages_50 : decode cX7_leastPages 50 = .ok (.invokevirtual 42, 3) := by decide +kernel
theorem dX7_leastPages_53 : decode cX7_leastPages 53 = .ok (.goto 4, 3) := by decide +kernel
theorem dX7_leastPages_56 : decode cX7_leastPages 56 = .ok (.iconst 0, 1) := by decide +kernel
theorem dX7_leastPages_57 : decode cX7_leastPages 57 = .ok (.iadd, 1) := by decide +kernel
theorem dX7_leastPages_58 : decode cX7_leastPages 58 = .ok (.istore_n 3, 1) := by decide +kernel
theorem dX7_leastPages_59 : decode cX7_leastPages 59 = .ok (.iinc 4 1, 3) := by decide +kernel
theorem dX7_leastPages_62 : decode cX7_leastPages 62 = .ok (.goto (-48), 3) := by decide +kernel
theorem dX7_leastPages_65 : decode cX7_leastPages 65 = .ok (.iload_n 3, 1) := by decide +kernel
theorem dX7_leastPages_66 : decode cX7_leastPages 66 = .ok (.iload_n 1, 1) := by decide +kernel
theorem dX7_leastPages_67 : decode cX7_leastPages 67 = .ok (.if_icmp .le 7, 3) := by decide +kernel
theorem dX7_leastPages_70 : decode cX7_leastPages 70 = .ok (.iload_n 3, 1) := by decide +kernel
theorem dX7_leastPages_71 : decode cX7_leastPages 71 = .ok (.goto 4, 3) := by decide +kernel
theorem dX7_leastPages_74 : decode cX7_leastPages 74 = .ok (.iload_n 1, 1) := by decide +kernel
theorem dX7_leastPages_75 : decode cX7_leastPages 75 = .ok (.istore_n 1, 1) := by decide +kernel
theorem dX7_leastPages_76 : decode cX7_leastPages 76 = .ok (.iinc 2 1, 3) := by decide +kernel
theorem dX7_leastPages_79 : decode cX7_leastPages 79 = .ok (.goto (-75), 3) := by decide +kernel
theorem dX7_leastPages_82 : decode cX7_leastPages 82 = .ok (.iload_n 1, 1) := by decide +kernel
theorem dX7_leastPages_83 : decode cX7_leastPages 83 = .ok (.bipush 99, 2) := by decide +kernel
theorem dX7_leastPages_85 : decode cX7_leastPages 85 = .ok (.if_icmp .gt 7, 3) := by decide +kernel
theorem dX7_leastPages_88 : decode cX7_leastPages 88 = .ok (.iload_n 1, 1) := by decide +kernel
theorem dX7_leastPages_89 : decode cX7_leastPages 89 = .ok (.goto 5, 3) := by decide +kernel
theorem dX7_leastPages_92 : decode cX7_leastPages 92 = .ok (.bipush (-6), 2) := by decide +kernel
theorem dX7_leastPages_94 : decode cX7_leastPages 94 = .ok (.ireturn, 1) := by decide +kernel
set_option maxRecDepth 20000 in
theorem ggX7_put_X7_in : GoodIn wsX7_put wsX7_in := goodIn_r _ [7] (by decide +kernel) (by decide +kernel)
set_option maxRecDepth 20000 in
theorem gX7_put_X7_in : GoodIn wsX7_put (va_wsS RX7 50 yX7_in wsX7_in) := goodIn_app (goodIn_of _ (by decide +kernel)) ggX7_put_X7_in
theorem dX7_put_0 : decode cX7_put 0 = .ok (.iconst 0, 1) := by decide +kernel
theorem dX7_put_1 : decode cX7_put 1 = .ok (.istore_n 3, 1) := by decide +kernel
theorem dX7_put_2 : decode cX7_put 2 = .ok (.lload_n 1, 1) := by decide +kernel
theorem dX7_put_3 : decode cX7_put 3 = .ok (.lstore 4, 2) := by decide +kernel
theorem dX7_put_5 : decode cX7_put 5 = .ok (.iconst 1, 1) := by decide +kernel
theorem dX7_put_6 : decode cX7_put 6 = .ok (.istore 6, 2) := by decide +kernel
theorem dX7_put_8 : decode cX7_put 8 = .ok (.lload 4, 2) := by decide +kernel
theorem dX7_put_10 : decode cX7_put 10 = .ok (.lconst 0, 1) := by decide +kernel
theorem dX7_put_11 : decode cX7_put 11 = .ok (.lcmp, 1) := by decide +kernel
theorem dX7_put_12 : decode cX7_put 12 = .ok (.ifCond .eq 37, 3) := by decide +kernel
theorem dX7_put_15 : decode cX7_put 15 = .ok (.iload 6, 2) := by decide +kernel
theorem dX7_put_17 : decode cX7_put 17 = .ok (.ifCond .eq 32, 3) := by decide +kernel
theorem dX7_put_20 : decode cX7_put 20 = .ok (.lload 4, 2) := by decide +kernel
theorem dX7_put_22 : decode cX7_put 22 = .ok (.ldc2_w 164, 3) := by decide +kernel
theorem dX7_put_25 : decode cX7_put 25 = .ok (.land, 1) := by decide +kernel
theorem dX7_put_26 : decode cX7_put 26 = .ok (.l2i, 1) := by decide +kernel
theorem dX7_put_27 : decode cX7_put 27 = .ok (.bipush 33, 2) := by decide +kernel
theorem dX7_put_29 : decode cX7_put 29 = .ok (.bipush 126, 2) := by decide +kernel
theorem dX7_put_31 : decode cX7_put 31 = .ok (.invokestatic 50, 3) := by decide +kernel
theorem dX7_put_34 : decode cX7_put 34 = .ok (.istore 6, 2) := by decide +kernel
theorem dX7_put_36 : decode cX7_put 36 = .ok (.lload 4, 2) := by decide +kernel
theorem dX7_put_38 : decode cX7_put 38 = .ok (.bipush 8, 2) := by decide +kernel
theorem dX7_put_40 : decode cX7_put 40 = .ok (.lushr, 1) := by decide +kernel
theorem dX7_put_41 : decode cX7_put 41 = .ok (.lstore 4, 2) := by decide +kernel
theorem dX7_put_43 : decode cX7_put 43 = .ok (.iinc 3 1, 3) := by decide +kernel
theorem dX7_put_46 : decode cX7_put 46 = .ok (.goto (-38), 3) := by decide +kernel
theorem dX7_put_49 : decode cX7_put 49 = .ok (.iload_n 3, 1) := by decide +kernel
theorem dX7_put_50 : decode cX7_put 50 = .ok (.ifCond .eq 8, 3) := by decide +kernel
theorem dX7_put_53 : decode cX7_put 53 = .ok (.iload 6, 2) := by decide +kernel
theorem dX7_put_55 : decode cX7_put 55 = .ok (.ifCond .ne 6, 3) := by decide +kernel
theorem dX7_put_58 : decode cX7_put 58 = .ok (.bipush (-2), 2) := by decide +kernel
theorem dX7_put_60 : decode cX7_put 60 = .ok (.ireturn, 1) := by decide +kernel
theorem dX7_put_61 : decode cX7_put 61 = .ok (.aload_n 0, 1) := by decide +kernel
theorem dX7_put_62 : decode cX7_put 62 = .ok (.getfield 146, 3) := by decide +kernel
theorem dX7_put_65 : decode cX7_put 65 = .ok (.iload_n 3, 1) := by decide +kernel
theorem dX7_put_66 : decode cX7_put 66 = .ok (.iadd, 1) := by decide +kernel
theorem dX7_put_67 : decode cX7_put 67 = .ok (.bipush 80, 2) := by decide +kernel
theorem dX7_put_69 : decode cX7_put 69 = .ok (.if_icmp .le 6, 3) := by decide +kernel
theorem dX7_put_72 : decode cX7_put 72 = .ok (.bipush (-4), 2) := by decide +kernel
theorem dX7_put_74 : decode cX7_put 74 = .ok (.ireturn, 1) := by decide +kernel
theorem dX7_put_75 : decode cX7_put 75 = .ok (.iload_n 3, 1) := by decide +kernel
theorem dX7_put_76 : decode cX7_put 76 = .ok (.iconst 1, 1) := by decide +kernel
theorem dX7_put_77 : decode cX7_put 77 = .ok (.isub, 1) := by decide +kernel
theorem dX7_put_78 : decode cX7_put 78 = .ok (.istore 7, 2) := by decide +kernel
theorem dX7_put_80 : decode cX7_put 80 = .ok (.iload 7, 2) := by decide +kernel
theorem dX7_put_82 : decode cX7_put 82 = .ok (.ifCond .lt 41, 3) := by decide +kernel
theorem dX7_put_85 : decode cX7_put 85 = .ok (.aload_n 0, 1) := by decide +kernel
theorem dX7_put_86 : decode cX7_put 86 = .ok (.getfield 23, 3) := by decide +kernel
theorem dX7_put_89 : decode cX7_put 89 = .ok (.aload_n 0, 1) := by decide +kernel
theorem dX7_put_90 : decode cX7_put 90 = .ok (.getfield 146, 3) := by decide +kernel
theorem dX7_put_93 : decode cX7_put 93 = .ok (.lload_n 1, 1) := by decide +kernel
theorem dX7_put_94 : decode cX7_put 94 = .ok (.bipush 8, 2) := by decide +kernel
theorem dX7_put_96 : decode cX7_put 96 = .ok (.iload 7, 2) := by decide +kernel
theorem dX7_put_98 : decode cX7_put 98 = .ok (.imul, 1) := by decide +kernel
theorem dX7_put_99 : decode cX7_put 99 = .ok (.lushr, 1) := by decide +kernel
theorem dX7_put_100 : decode cX7_put 100 = .ok (.ldc2_w 164, 3) := by decide +kernel
theorem dX7_put_103 : decode cX7_put 103 = .ok (.land, 1) := by decide +kernel
theorem dX7_put_104 : decode cX7_put 104 = .ok (.l2i, 1) := by decide +kernel
theorem dX7_put_105 : decode cX7_put 105 = .ok (.i2c, 1) := by decide +kernel
theorem dX7_put_106 : decode cX7_put 106 = .ok (.castore, 1) := by decide +kernel
theorem dX7_put_107 : decode cX7_put 107 = .ok (.aload_n 0, 1) := by decide +kernel
theorem dX7_put_108 : decode cX7_put 108 = .ok (.dup, 1) := by decide +kernel
theorem dX7_put_109 : decode cX7_put 109 = .ok (.getfield 146, 3) := by decide +kernel
theorem dX7_put_112 : decode cX7_put 112 = .ok (.iconst 1, 1) := by decide +kernel
theorem dX7_put_113 : decode cX7_put 113 = .ok (.iadd, 1) := by decide +kernel
theorem dX7_put_114 : decode cX7_put 114 = .ok (.putfield 146, 3) := by decide +kernel
theorem dX7_put_117 : decode cX7_put 117 = .ok (.iinc 7 (-1), 3) := by decide +kernel
theorem dX7_put_120 : decode cX7_put 120 = .ok (.goto (-40), 3) := by decide +kernel
theorem dX7_put_123 : decode cX7_put 123 = .ok (.aload_n 0, 1) := by decide +kernel
theorem dX7_put_124 : decode cX7_put 124 = .ok (.getfield 146, 3) := by decide +kernel
theorem dX7_put_127 : decode cX7_put 127 = .ok (.ireturn, 1) := by decide +kernel
theorem dX7_wipe_0 : decode cX7_wipe 0 = .ok (.aload_n 0, 1) := by decide +kernel
theorem dX7_wipe_1 : decode cX7_wipe 1 = .ok (.getfield 146, 3) := by decide +kernel
theorem dX7_wipe_4 : decode cX7_wipe 4 = .ok (.istore_n 1, 1) := by decide +kernel
theorem dX7_wipe_5 : decode cX7_wipe 5 = .ok (.aload_n 0, 1) := by decide +kernel
theorem dX7_wipe_6 : decode cX7_wipe 6 = .ok (.iconst 0, 1) := by decide +kernel
theorem dX7_wipe_7 : decode cX7_wipe 7 = .ok (.putfield 146, 3) := by decide +kernel
theorem dX7_wipe_10 : decode cX7_wipe 10 = .ok (.iload_n 1, 1) := by decide +kernel
theorem dX7_wipe_11 : decode cX7_wipe 11 = .ok (.ireturn, 1) := by decide +kernel
theorem dX7_letter_0 : decode cX7_letter 0 = .ok (.aload_n 0, 1) := by decide +kernel
theorem dX7_letter_1 : decode cX7_letter 1 = .ok (.getfield 166, 3) := by decide +kernel
theorem dX7_letter_4 : decode cX7_letter 4 = .ok (.aload_n 0, 1) := by decide +kernel
theorem dX7_letter_5 : decode cX7_letter 5 = .ok (.getfield 146, 3) := by decide +kernel
theorem dX7_letter_8 : decode cX7_letter 8 = .ok (.if_icmp .ge 15, 3) := by decide +kernel
theorem dX7_letter_11 : decode cX7_letter 11 = .ok (.aload_n 0, 1) := by decide +kernel
theorem dX7_letter_12 : decode cX7_letter 12 = .ok (.getfield 23, 3) := by decide +kernel
theorem dX7_letter_15 : decode cX7_letter 15 = .ok (.aload_n 0, 1) := by decide +kernel
theorem dX7_letter_16 : decode cX7_letter 16 = .ok (.getfield 166, 3) := by decide +kernel
theorem dX7_letter_19 : decode cX7_letter 19 = .ok (.caload, 1) := by decide +kernel
theorem dX7_letter_20 : decode cX7_letter 20 = .ok (.goto 5, 3) := by decide +kernel
theorem dX7_letter_23 : decode cX7_letter 23 = .ok (.bipush (-6), 2) := by decide +kernel
theorem dX7_letter_25 : decode cX7_letter 25 = .ok (.ireturn, 1) := by decide +kernel
theorem dX7_wants_0 : decode cX7_wants 0 = .ok (.aload_n 0, 1) := by decide +kernel
theorem dX7_wants_1 : decode cX7_wants 1 = .ok (.getfield 169, 3) := by decide +kernel
theorem dX7_wants_4 : decode cX7_wants 4 = .ok (.bipush (-6), 2) := by decide +kernel
theorem dX7_wants_6 : decode cX7_wants 6 = .ok (.if_icmp .ne 30, 3) := by decide +kernel
theorem dX7_wants_9 : decode cX7_wants 9 = .ok (.aload_n 0, 1) := by decide +kernel
theorem dX7_wants_10 : decode cX7_wants 10 = .ok (.iload_n 1, 1) := by decide +kernel
theorem dX7_wants_11 : decode cX7_wants 11 = .ok (.ifCond .eq 8, 3) := by decide +kernel
theorem dX7_wants_14 : decode cX7_wants 14 = .ok (.bipush (-6), 2) := by decide +kernel
theorem dX7_wants_16 : decode cX7_wants 16 = .ok (.goto 7, 3) := by decide +kernel
theorem dX7_wants_19 : decode cX7_wants 19 = .ok (.aload_n 0, 1) := by decide +kernel
theorem dX7_wants_20 : decode cX7_wants 20 = .ok (.getfield 166, 3) := by decide +kernel
theorem dX7_wants_23 : decode cX7_wants 23 = .ok (.putfield 169, 3) := by decide +kernel
theorem dX7_wants_26 : decode cX7_wants 26 = .ok (.aload_n 0, 1) := by decide +kernel
theorem dX7_wants_27 : decode cX7_wants 27 = .ok (.dup, 1) := by decide +kernel
theorem dX7_wants_28 : decode cX7_wants 28 = .ok (.getfield 166, 3) := by decide +kernel
theorem dX7_wants_31 : decode cX7_wants 31 = .ok (.iconst 1, 1) := by decide +kernel
theorem dX7_wants_32 : decode cX7_wants 32 = .ok (.iadd, 1) := by decide +kernel
theorem dX7_wants_33 : decode cX7_wants 33 = .ok (.putfield 166, 3) := by decide +kernel
theorem dX7_wants_36 : decode cX7_wants 36 = .ok (.return_, 1) := by decide +kernel
set_option maxRecDepth 20000 in
theorem ggX7_digit_X7_letter : GoodIn wsX7_digit wsX7_letter := goodIn_r _ [5, 6, 7, 8, 17, 18, 19, 20, 21, 22, 23, 24, 25, 26, 27, 28, 29, 30, 31] (by decide +kernel) (by decide +kernel)
set_option maxRecDepth 20000 in
theorem gX7_digit_X7_letter : GoodIn wsX7_digit (wsV RX7 172 RX7 yX7_letter wsX7_letter) := goodIn_app (goodIn_of _ (by decide +kernel)) ggX7_digit_X7_letter
set_option maxRecDepth 20000 in
theorem ggX7_digit_X7_in : GoodIn wsX7_digit wsX7_in := goodIn_r _ [11] (by decide +kernel) (by decide +kernel)
set_option maxRecDepth 20000 in
theorem gX7_digit_X7_in : GoodIn wsX7_digit (va_wsS RX7 50 yX7_in wsX7_in) := goodIn_app (goodIn_of _ (by decide +kernel)) ggX7_digit_X7_in
set_option maxRecDepth 20000 in
theorem ggX7_digit_X7_wants : GoodIn wsX7_digit wsX7_wants := goodIn_r _ [15, 16, 6, 17, 18, 19, 20, 21, 22, 23, 24, 25, 26, 27, 28, 29, 30, 31] (by decide +kernel) (by decide +kernel)
set_option maxRecDepth 20000 in
theorem gX7_digit_X7_wants : GoodIn wsX7_digit (wsV RX7 175 RX7 yX7_wants wsX7_wants) := goodIn_app (goodIn_of _ (by decide +kernel)) ggX7_digit_X7_wants
theorem dX7_digit_0 : decode cX7_digit 0 = .ok (.aload_n 0, 1) := by decide +kernel
theorem dX7_digit_1 : decode cX7_digit 1 = .ok (.invokevirtual 172, 3) := by decide +kernel
theorem dX7_digit_4 : decode cX7_digit 4 = .ok (.bipush 48, 2) := by decide +kernel
theorem dX7_digit_6 : decode cX7_digit 6 = .ok (.isub, 1) := by decide +kernel
theorem dX7_digit_7 : decode cX7_digit 7 = .ok (.istore_n 3, 1) := by decide +kernel
theorem dX7_digit_8 : decode cX7_digit 8 = .ok (.aload_n 0, 1) := by decide +kernel
theorem dX7_digit_9 : decode cX7_digit 9 = .ok (.iload_n 3, 1) := by decide +kernel
theorem dX7_digit_10 : decode cX7_digit 10 = .ok (.iload_n 1, 1) := by decide +kernel
theorem dX7_digit_11 : decode cX7_digit 11 = .ok (.iload_n 2, 1) := by decide +kernel
theorem dX7_digit_12 : decode cX7_digit 12 = .ok (.invokestatic 50, 3) := by decide +kernel
theorem dX7_digit_15 : decode cX7_digit 15 = .ok (.invokevirtual 175, 3) := by decide +kernel
theorem dX7_digit_18 : decode cX7_digit 18 = .ok (.iload_n 3, 1) := by decide +kernel
theorem dX7_digit_19 : decode cX7_digit 19 = .ok (.ireturn, 1) := by decide +kernel
set_option maxRecDepth 20000 in
theorem ggX7_number_X7_digit : GoodIn wsX7_number wsX7_digit := goodIn_r _ [7, 8, 9, 10, 6, 11, 2, 12, 13, 14, 15, 16, 17, 18, 19, 20, 1, 21, 22, 23, 24, 25, 26, 27, 28, 29, 30, 31, 32, 33, 34, 35] (by decide +kernel) (by decide +kernel)
set_option maxRecDepth 20000 in
theorem gX7_number_X7_digit : GoodIn wsX7_number (wsV RX7 179 RX7 yX7_digit wsX7_digit) := goodIn_app (goodIn_of _ (by decide +kernel)) ggX7_number_X7_digit
set_option maxRecDepth 20000 in
theorem ggX7_number_X7_letter : GoodIn wsX7_number wsX7_letter := goodIn_r _ [11, 2, 12, 13, 21, 22, 23, 24, 25, 26, 27, 28, 29, 30, 31, 32, 33, 34, 35] (by decide +kernel) (by decide +kernel)
set_option maxRecDepth 20000 in
theorem gX7_number_X7_letter : GoodIn wsX7_number (wsV RX7 172 RX7 yX7_letter wsX7_letter) := goodIn_app (goodIn_of _ (by decide +kernel)) ggX7_number_X7_letter
set_option maxRecDepth 20000 in
theorem ggX7_number_X7_in : GoodIn wsX7_number wsX7_in := goodIn_r _ [16] (by decide +kernel) (by decide +kernel)
set_option maxRecDepth 20000 in
theorem gX7_number_X7_in : GoodIn wsX7_number (va_wsS RX7 50 yX7_in wsX7_in) := goodIn_app (goodIn_of _ (by decide +kernel)) ggX7_number_X7_in
theorem dX7_number_0 : decode cX7_number 0 = .ok (.aload_n 0, 1) := by decide +kernel
theorem dX7_number_1 : decode cX7_number 1 = .ok (.iconst 0, 1) := by decide +kernel
theorem dX7_number_2 : decode cX7_number 2 = .ok (.bipush 9, 2) := by decide +kernel
theorem dX7_number_4 : decode cX7_number 4 = .ok (.invokevirtual 179, 3) := by decide +kernel
theorem dX7_number_7 : decode cX7_number 7 = .ok (.istore_n 1, 1) := by decide +kernel
theorem dX7_number_8 : decode cX7_number 8 = .ok (.aload_n 0, 1) := by decide +kernel
theorem dX7_number_9 : decode cX7_number 9 = .ok (.invokevirtual 172, 3) := by decide +kernel
theorem dX7_number_12 : decode cX7_number 12 = .ok (.bipush 48, 2) := by decide +kernel
theorem dX7_number_14 : decode cX7_number 14 = .ok (.isub, 1) := by decide +kernel
theorem dX7_number_15 : decode cX7_number 15 = .ok (.istore_n 2, 1) := by decide +kernel
theorem dX7_number_16 : decode cX7_number 16 = .ok (.aload_n 0, 1) := by decide +kernel
theorem dX7_number_17 : decode cX7_number 17 = .ok (.getfield 169, 3) := by decide +kernel
theorem dX7_number_20 : decode cX7_number 20 = .ok (.bipush (-6), 2) := by decide +kernel
theorem dX7_number_22 : decode cX7_number 22 = .ok (.if_icmp .ne 34, 3) := by decide +kernel
theorem dX7_number_25 : decode cX7_number 25 = .ok (.iload_n 1, 1) := by decide +kernel
theorem dX7_number_26 : decode cX7_number 26 = .ok (.ifCond .le 30, 3) := by decide +kernel
theorem dX7_number_29 : decode cX7_number 29 = .ok (.iload_n 2, 1) := by decide +kernel
theorem dX7_number_30 : decode cX7_number 30 = .ok (.iconst 0, 1) := by decide +kernel
theorem dX7_number_31 : decode cX7_number 31 = .ok (.bipush 9, 2) := by decide +kernel
theorem dX7_number_33 : decode cX7_number 33 = .ok (.invokestatic 50, 3) := by decide +kernel
theorem dX7_number_36 : decode cX7_number 36 = .ok (.ifCond .eq 20, 3) := by decide +kernel
theorem dX7_number_39 : decode cX7_number 39 = .ok (.bipush 10, 2) := by decide +kernel
theorem dX7_number_41 : decode cX7_number 41 = .ok (.iload_n 1, 1) := by decide +kernel
theorem dX7_number_42 : decode cX7_number 42 = .ok (.imul, 1) := by decide +kernel
theorem dX7_number_43 : decode cX7_number 43 = .ok (.iload_n 2, 1) := by decide +kernel
theorem dX7_number_44 : decode cX7_number 44 = .ok (.iadd, 1) := by decide +kernel
theorem dX7_number_45 : decode cX7_number 45 = .ok (.istore_n 1, 1) := by decide +kernel
theorem dX7_number_46 : decode cX7_number 46 = .ok (.aload_n 0, 1) := by decide +kernel
theorem dX7_number_47 : decode cX7_number 47 = .ok (.dup, 1) := by decide +kernel
theorem dX7_number_48 : decode cX7_number 48 = .ok (.getfield 166, 3) := by decide +kernel
theorem dX7_number_51 : decode cX7_number 51 = .ok (.iconst 1, 1) := by decide +kernel
theorem dX7_number_52 : decode cX7_number 52 = .ok (.iadd, 1) := by decide +kernel
theorem dX7_number_53 : decode cX7_number 53 = .ok (.putfield 166, 3) := by decide +kernel
theorem dX7_number_56 : decode cX7_number 56 = .ok (.iload_n 1, 1) := by decide +kernel
theorem dX7_number_57 : decode cX7_number 57 = .ok (.ireturn, 1) := by decide +kernel
set_option maxRecDepth 20000 in
theorem ggX7_cites_X7_letter : GoodIn wsX7_cites wsX7_letter := goodIn_r _ [7, 2, 8, 9, 21, 22, 23, 24, 25, 26, 27, 28, 29, 30, 31, 32, 33, 34, 35] (by decide +kernel) (by decide +kernel)
set_option maxRecDepth 20000 in
theorem gX7_cites_X7_letter : GoodIn wsX7_cites (wsV RX7 172 RX7 yX7_letter wsX7_letter) := goodIn_app (goodIn_of _ (by decide +kernel)) ggX7_cites_X7_letter
set_option maxRecDepth 20000 in
theorem ggX7_cites_X7_digit : GoodIn wsX7_cites wsX7_digit := goodIn_r _ [13, 3, 4, 5, 6, 7, 2, 8, 9, 14, 15, 16, 17, 18, 19, 20, 1, 21, 22, 23, 24, 25, 26, 27, 28, 29, 30, 31, 32, 33, 34, 35] (by decide +kernel) (by decide +kernel)
set_option maxRecDepth 20000 in
theorem gX7_cites_X7_digit : GoodIn wsX7_cites (wsV RX7 179 RX7 yX7_digit wsX7_digit) := goodIn_app (goodIn_of _ (by decide +kernel)) ggX7_cites_X7_digit
set_option maxRecDepth 20000 in
theorem ggX7_cites_X7_in : GoodIn wsX7_cites wsX7_in := goodIn_r _ [16] (by decide +kernel) (by decide +kernel)
set_option maxRecDepth 20000 in
theorem gX7_cites_X7_in : GoodIn wsX7_cites (va_wsS RX7 50 yX7_in wsX7_in) := goodIn_app (goodIn_of _ (by decide +kernel)) ggX7_cites_X7_in
theorem dX7_cites_0 : decode cX7_cites 0 = .ok (.iconst 0, 1) := by decide +kernel
theorem dX7_cites_1 : decode cX7_cites 1 = .ok (.istore_n 1, 1) := by decide +kernel
theorem dX7_cites_2 : decode cX7_cites 2 = .ok (.aload_n 0, 1) := by decide +kernel
theorem dX7_cites_3 : decode cX7_cites 3 = .ok (.getfield 169, 3) := by decide +kernel
theorem dX7_cites_6 : decode cX7_cites 6 = .ok (.bipush (-6), 2) := by decide +kernel
theorem dX7_cites_8 : decode cX7_cites 8 = .ok (.if_icmp .ne 97, 3) := by decide +kernel
theorem dX7_cites_11 : decode cX7_cites 11 = .ok (.aload_n 0, 1) := by decide +kernel
theorem dX7_cites_12 : decode cX7_cites 12 = .ok (.invokevirtual 172, 3) := by decide +kernel
theorem dX7_cites_15 : decode cX7_cites 15 = .ok (.bipush 43, 2) := by decide +kernel
theorem dX7_cites_17 : decode cX7_cites 17 = .ok (.if_icmp .ne 88, 3) := by decide +kernel
theorem dX7_cites_20 : decode cX7_cites 20 = .ok (.aload_n 0, 1) := by decide +kernel
theorem dX7_cites_21 : decode cX7_cites 21 = .ok (.dup, 1) := by decide +kernel
theorem dX7_cites_22 : decode cX7_cites 22 = .ok (.getfield 166, 3) := by decide +kernel
theorem dX7_cites_25 : decode cX7_cites 25 = .ok (.iconst 1, 1) := by decide +kernel
theorem dX7_cites_26 : decode cX7_cites 26 = .ok (.iadd, 1) := by decide +kernel
theorem dX7_cites_27 : decode cX7_cites 27 = .ok (.putfield 166, 3) := by decide +kernel
theorem dX7_cites_30 : decode cX7_cites 30 = .ok (.aload_n 0, 1) := by decide +kernel
theorem dX7_cites_31 : decode cX7_cites 31 = .ok (.iconst 0, 1) := by decide +kernel
theorem dX7_cites_32 : decode cX7_cites 32 = .ok (.bipush 9, 2) := by decide +kernel
theorem dX7_cites_34 : decode cX7_cites 34 = .ok (.invokevirtual 179, 3) := by decide +kernel
theorem dX7_cites_37 : decode cX7_cites 37 = .ok (.istore_n 2, 1) := by decide +kernel
theorem dX7_cites_38 : decode cX7_cites 38 = .ok (.aload_n 0, 1) := by decide +kernel
theorem dX7_cites_39 : decode cX7_cites 39 = .ok (.getfield 169, 3) := by decide +kernel
theorem dX7_cites_42 : decode cX7_cites 42 = .ok (.bipush (-6), 2) := by decide +kernel
theorem dX7_cites_44 : decode cX7_cites 44 = .ok (.if_icmp .ne 9, 3) := by decide +kernel
theorem dX7_cites_47 : decode cX7_cites 47 = .ok (.iconst 1, 1) := by decide +kernel
theorem dX7_cites_48 : decode cX7_cites 48 = .ok (.iload_n 2, 1) := by decide +kernel
theorem dX7_cites_49 : decode cX7_cites 49 = .ok (.ishl, 1) := by decide +kernel
theorem dX7_cites_50 : decode cX7_cites 50 = .ok (.goto 4, 3) := by decide +kernel
theorem dX7_cites_53 : decode cX7_cites 53 = .ok (.iconst 0, 1) := by decide +kernel
theorem dX7_cites_54 : decode cX7_cites 54 = .ok (.istore_n 1, 1) := by decide +kernel
theorem dX7_cites_55 : decode cX7_cites 55 = .ok (.aload_n 0, 1) := by decide +kernel
theorem dX7_cites_56 : decode cX7_cites 56 = .ok (.getfield 169, 3) := by decide +kernel
theorem dX7_cites_59 : decode cX7_cites 59 = .ok (.bipush (-6), 2) := by decide +kernel
theorem dX7_cites_61 : decode cX7_cites 61 = .ok (.if_icmp .ne 44, 3) := by decide +kernel
theorem dX7_cites_64 : decode cX7_cites 64 = .ok (.aload_n 0, 1) := by decide +kernel
theorem dX7_cites_65 : decode cX7_cites 65 = .ok (.invokevirtual 172, 3) := by decide +kernel
theorem dX7_cites_68 : decode cX7_cites 68 = .ok (.bipush 48, 2) := by decide +kernel
theorem dX7_cites_70 : decode cX7_cites 70 = .ok (.isub, 1) := by decide +kernel
theorem dX7_cites_71 : decode cX7_cites 71 = .ok (.iconst 0, 1) := by decide +kernel
theorem dX7_cites_72 : decode cX7_cites 72 = .ok (.bipush 9, 2) := by decide +kernel
theorem dX7_cites_74 : decode cX7_cites 74 = .ok (.invokestatic 50, 3) := by decide +kernel
theorem dX7_cites_77 : decode cX7_cites 77 = .ok (.ifCond .eq 28, 3) := by decide +kernel
theorem dX7_cites_80 : decode cX7_cites 80 = .ok (.iload_n 1, 1) := by decide +kernel
theorem dX7_cites_81 : decode cX7_cites 81 = .ok (.iconst 1, 1) := by decide +kernel
theorem dX7_cites_82 : decode cX7_cites 82 = .ok (.aload_n 0, 1) := by decide +kernel
theorem dX7_cites_83 : decode cX7_cites 83 = .ok (.invokevirtual 172, 3) := by decide +kernel
theorem dX7_cites_86 : decode cX7_cites 86 = .ok (.bipush 48, 2) := by decide +kernel
theorem dX7_cites_88 : decode cX7_cites 88 = .ok (.isub, 1) := by decide +kernel
theorem dX7_cites_89 : decode cX7_cites 89 = .ok (.ishl, 1) := by decide +kernel
theorem dX7_cites_90 : decode cX7_cites 90 = .ok (.ior, 1) := by decide +kernel
theorem dX7_cites_91 : decode cX7_cites 91 = .ok (.istore_n 1, 1) := by decide +kernel
theorem dX7_cites_92 : decode cX7_cites 92 = .ok (.aload_n 0, 1) := by decide +kernel
theorem dX7_cites_93 : decode cX7_cites 93 = .ok (.dup, 1) := by decide +kernel
theorem dX7_cites_94 : decode cX7_cites 94 = .ok (.getfield 166, 3) := by decide +kernel
theorem dX7_cites_97 : decode cX7_cites 97 = .ok (.iconst 1, 1) := by decide +kernel
theorem dX7_cites_98 : decode cX7_cites 98 = .ok (.iadd, 1) := by decide +kernel
theorem dX7_cites_99 : decode cX7_cites 99 = .ok (.putfield 166, 3) := by decide +kernel
theorem dX7_cites_102 : decode cX7_cites 102 = .ok (.goto (-47), 3) := by decide +kernel
theorem dX7_cites_105 : decode cX7_cites 105 = .ok (.iload_n 1, 1) := by decide +kernel
theorem dX7_cites_106 : decode cX7_cites 106 = .ok (.ireturn, 1) := by decide +kernel
set_option maxRecDepth 20000 in
theorem ggX7_readOrder_X7_letter : GoodIn wsX7_readOrder wsX7_letter := goodIn_r _ [7, 8, 9, 10, 31, 32, 33, 34, 35, 36, 37, 38, 39, 40, 41, 42, 43, 44, 45] (by decide +kernel) (by decide +kernel)
set_option maxRecDepth 20000 in
theorem gX7_readOrder_X7_letter : GoodIn wsX7_readOrder (wsV RX7 172 RX7 yX7_letter wsX7_letter) := goodIn_app (goodIn_of _ (by decide +kernel)) ggX7_readOrder_X7_letter
set_option maxRecDepth 20000 in
theorem ggX7_readOrder_X7_wants : GoodIn wsX7_readOrder wsX7_wants := goodIn_r _ [14, 15, 8, 31, 32, 33, 34, 35, 36, 37, 38, 39, 40, 41, 42, 43, 44, 45] (by decide +kernel) (by decide +kernel)
set_option maxRecDepth 20000 in
theorem gX7_readOrder_X7_wants : GoodIn wsX7_readOrder (wsV RX7 175 RX7 yX7_wants wsX7_wants) := goodIn_app (goodIn_of _ (by decide +kernel)) ggX7_readOrder_X7_wants
set_option maxRecDepth 20000 in
theorem ggX7_readOrder_X7_digit : GoodIn wsX7_readOrder wsX7_digit := goodIn_r _ [19, 3, 4, 5, 6, 7, 8, 9, 10, 20, 21, 22, 11, 12, 13, 14, 15, 31, 32, 33, 34, 35, 36, 37, 38, 39, 40, 41, 42, 43, 44, 45] (by decide +kernel) (by decide +kernel)
set_option maxRecDepth 20000 in
theorem gX7_readOrder_X7_digit : GoodIn wsX7_readOrder (wsV RX7 179 RX7 yX7_digit wsX7_digit) := goodIn_app (goodIn_of _ (by decide +kernel)) ggX7_readOrder_X7_digit
set_option maxRecDepth 20000 in
theorem ggX7_readOrder_X7_number : GoodIn wsX7_readOrder wsX7_number := goodIn_r _ [26, 15, 8, 16, 17, 18, 6, 19, 3, 4, 5, 7, 9, 10, 20, 21, 22, 11, 12, 13, 14, 31, 32, 33, 34, 35, 36, 37, 38, 39, 40, 41, 42, 43, 44, 45] (by decide +kernel) (by decide +kernel)
set_option maxRecDepth 20000 in
theorem gX7_readOrder_X7_number : GoodIn wsX7_readOrder (wsV RX7 185 RX7 yX7_number wsX7_number) := goodIn_app (goodIn_of _ (by decide +kernel)) ggX7_readOrder_X7_number
set_option maxRecDepth 20000 in
theorem ggX7_readOrder_X7_cites : GoodIn wsX7_readOrder wsX7_cites := goodIn_r _ [30, 15, 8, 3, 4, 5, 6, 7, 9, 10, 16, 17, 18, 19, 20, 21, 22, 11, 12, 13, 14, 31, 32, 33, 34, 35, 36, 37, 38, 39, 40, 41, 42, 43, 44, 45] (by decide +kernel) (by decide +kernel)
set_option maxRecDepth 20000 in
theorem gX7_readOrder_X7_cites : GoodIn wsX7_readOrder (wsV RX7 188 RX7 yX7_cites wsX7_cites) := goodIn_app (goodIn_of _ (by decide +kernel)) ggX7_readOrder_X7_cites
theorem dX7_readOrder_0 : decode cX7_readOrder 0 = .ok (.iconst 4, 1) := by decide +kernel
theorem dX7_readOrder_1 : decode cX7_readOrder 1 = .ok (.aload_n 0, 1) := by decide +kernel
theorem dX7_readOrder_2 : decode cX7_readOrder 2 = .ok (.getfield 182, 3) := by decide +kernel
theorem dX7_readOrder_5 : decode cX7_readOrder 5 = .ok (.imul, 1) := by decide +kernel
theorem dX7_readOrder_6 : decode cX7_readOrder 6 = .ok (.istore_n 1, 1) := by decide +kernel
theorem dX7_readOrder_7 : decode cX7_readOrder 7 = .ok (.aload_n 0, 1) := by decide +kernel
theorem dX7_readOrder_8 : decode cX7_readOrder 8 = .ok (.invokevirtual 172, 3) := by decide +kernel
theorem dX7_readOrder_11 : decode cX7_readOrder 11 = .ok (.istore_n 2, 1) := by decide +kernel
theorem dX7_readOrder_12 : decode cX7_readOrder 12 = .ok (.aload_n 0, 1) := by decide +kernel
theorem dX7_readOrder_13 : decode cX7_readOrder 13 = .ok (.getfield 39, 3) := by decide +kernel
theorem dX7_readOrder_16 : decode cX7_readOrder 16 = .ok (.iload_n 1, 1) := by decide +kernel
theorem dX7_readOrder_17 : decode cX7_readOrder 17 = .ok (.iload_n 2, 1) := by decide +kernel
theorem dX7_readOrder_18 : decode cX7_readOrder 18 = .ok (.iastore, 1) := by decide +kernel
theorem dX7_readOrder_19 : decode cX7_readOrder 19 = .ok (.aload_n 0, 1) := by decide +kernel
theorem dX7_readOrder_20 : decode cX7_readOrder 20 = .ok (.iload_n 2, 1) := by decide +kernel
theorem dX7_readOrder_21 : decode cX7_readOrder 21 = .ok (.bipush 99, 2) := by decide +kernel
theorem dX7_readOrder_23 : decode cX7_readOrder 23 = .ok (.if_icmp .eq 33, 3) := by decide +kernel
theorem dX7_readOrder_26 : decode cX7_readOrder 26 = .ok (.iload_n 2, 1) := by decide +kernel
theorem dX7_readOrder_27 : decode cX7_readOrder 27 = .ok (.bipush 97, 2) := by decide +kernel
theorem dX7_readOrder_29 : decode cX7_readOrder 29 = .ok (.if_icmp .eq 27, 3) := by decide +kernel
theorem dX7_readOrder_32 : decode cX7_readOrder 32 = .ok (.iload_n 2, 1) := by decide +kernel
theorem dX7_readOrder_33 : decode cX7_readOrder 33 = .ok (.bipush 119, 2) := by decide +kernel
theorem dX7_readOrder_35 : decode cX7_readOrder 35 = .ok (.if_icmp .eq 21, 3) := by decide +kernel
theorem dX7_readOrder_38 : decode cX7_readOrder 38 = .ok (.iload_n 2, 1) := by decide +kernel
theorem dX7_readOrder_39 : decode cX7_readOrder 39 = .ok (.bipush 114, 2) := by decide +kernel
theorem dX7_readOrder_41 : decode cX7_readOrder 41 = .ok (.if_icmp .eq 15, 3) := by decide +kernel
theorem dX7_readOrder_44 : decode cX7_readOrder 44 = .ok (.iload_n 2, 1) := by decide +kernel
theorem dX7_readOrder_45 : decode cX7_readOrder 45 = .ok (.bipush 111, 2) := by decide +kernel
theorem dX7_readOrder_47 : decode cX7_readOrder 47 = .ok (.if_icmp .eq 9, 3) := by decide +kernel
theorem dX7_readOrder_50 : decode cX7_readOrder 50 = .ok (.iload_n 2, 1) := by decide +kernel
theorem dX7_readOrder_51 : decode cX7_readOrder 51 = .ok (.bipush 116, 2) := by decide +kernel
theorem dX7_readOrder_53 : decode cX7_readOrder 53 = .ok (.if_icmp .ne 7, 3) := by decide +kernel
theorem dX7_readOrder_56 : decode cX7_readOrder 56 = .ok (.iconst 1, 1) := by decide +kernel
theorem dX7_readOrder_57 : decode cX7_readOrder 57 = .ok (.goto 4, 3) := by decide +kernel
theorem dX7_readOrder_60 : decode cX7_readOrder 60 = .ok (.iconst 0, 1) := by decide +kernel
theorem dX7_readOrder_61 : decode cX7_readOrder 61 = .ok (.invokevirtual 175, 3) := by decide +kernel
theorem dX7_readOrder_64 : decode cX7_readOrder 64 = .ok (.aload_n 0, 1) := by decide +kernel
theorem dX7_readOrder_65 : decode cX7_readOrder 65 = .ok (.getfield 39, 3) := by decide +kernel
theorem dX7_readOrder_68 : decode cX7_readOrder 68 = .ok (.iload_n 1, 1) := by decide +kernel
theorem dX7_readOrder_69 : decode cX7_readOrder 69 = .ok (.iconst 1, 1) := by decide +kernel
theorem dX7_readOrder_70 : decode cX7_readOrder 70 = .ok (.iadd, 1) := by decide +kernel
theorem dX7_readOrder_71 : decode cX7_readOrder 71 = .ok (.iload_n 2, 1) := by decide +kernel
theorem dX7_readOrder_72 : decode cX7_readOrder 72 = .ok (.bipush 99, 2) := by decide +kernel
theorem dX7_readOrder_74 : decode cX7_readOrder 74 = .ok (.if_icmp .ne 12, 3) := by decide +kernel
theorem dX7_readOrder_77 : decode cX7_readOrder 77 = .ok (.aload_n 0, 1) := by decide +kernel
theorem dX7_readOrder_78 : decode cX7_readOrder 78 = .ok (.iconst 0, 1) := by decide +kernel
theorem dX7_readOrder_79 : decode cX7_readOrder 79 = .ok (.iconst 1, 1) := by decide +kernel
theorem dX7_readOrder_80 : decode cX7_readOrder 80 = .ok (.invokevirtual 179, 3) := by decide +kernel
theorem dX7_readOrder_83 : decode cX7_readOrder 83 = .ok (.goto 23, 3) := by decide +kernel
theorem dX7_readOrder_86 : decode cX7_readOrder 86 = .ok (.iload_n 2, 1) := by decide +kernel
theorem dX7_readOrder_87 : decode cX7_readOrder 87 = .ok (.bipush 111, 2) := by decide +kernel
theorem dX7_readOrder_89 : decode cX7_readOrder 89 = .ok (.if_icmp .ne 13, 3) := by decide +kernel
theorem dX7_readOrder_92 : decode cX7_readOrder 92 = .ok (.aload_n 0, 1) := by decide +kernel
theorem dX7_readOrder_93 : decode cX7_readOrder 93 = .ok (.iconst 0, 1) := by decide +kernel
theorem dX7_readOrder_94 : decode cX7_readOrder 94 = .ok (.bipush 9, 2) := by decide +kernel
theorem dX7_readOrder_96 : decode cX7_readOrder 96 = .ok (.invokevirtual 179, 3) := by decide +kernel
theorem dX7_readOrder_99 : decode cX7_readOrder 99 = .ok (.goto 7, 3) := by decide +kernel
theorem dX7_readOrder_102 : decode cX7_readOrder 102 = .ok (.aload_n 0, 1) := by decide +kernel
theorem dX7_readOrder_103 : decode cX7_readOrder 103 = .ok (.invokevirtual 185, 3) := by decide +kernel
theorem dX7_readOrder_106 : decode cX7_readOrder 106 = .ok (.iastore, 1) := by decide +kernel
theorem dX7_readOrder_107 : decode cX7_readOrder 107 = .ok (.iload_n 2, 1) := by decide +kernel
theorem dX7_readOrder_108 : decode cX7_readOrder 108 = .ok (.bipush 99, 2) := by decide +kernel
theorem dX7_readOrder_110 : decode cX7_readOrder 110 = .ok (.if_icmp .eq 9, 3) := by decide +kernel
theorem dX7_readOrder_113 : decode cX7_readOrder 113 = .ok (.iload_n 2, 1) := by decide +kernel
theorem dX7_readOrder_114 : decode cX7_readOrder 114 = .ok (.bipush 97, 2) := by decide +kernel
theorem dX7_readOrder_116 : decode cX7_readOrder 116 = .ok (.if_icmp .ne 48, 3) := by decide +kernel
theorem dX7_readOrder_119 : decode cX7_readOrder 119 = .ok (.aload_n 0, 1) := by decide +kernel
theorem dX7_readOrder_120 : decode cX7_readOrder 120 = .ok (.aload_n 0, 1) := by decide +kernel
theorem dX7_readOrder_121 : decode cX7_readOrder 121 = .ok (.invokevirtual 172, 3) := by decide +kernel
theorem dX7_readOrder_124 : decode cX7_readOrder 124 = .ok (.bipush 47, 2) := by decide +kernel
theorem dX7_readOrder_126 : decode cX7_readOrder 126 = .ok (.if_icmp .ne 7, 3) := by decide +kernel
theorem dX7_readOrder_129 : decode cX7_readOrder 129 = .ok (.iconst 1, 1) := by decide +kernel
theorem dX7_readOrder_130 : decode cX7_readOrder 130 = .ok (.goto 4, 3) := by decide +kernel
theorem dX7_readOrder_133 : decode cX7_readOrder 133 = .ok (.iconst 0, 1) := by decide +kernel
theorem dX7_readOrder_134 : decode cX7_readOrder 134 = .ok (.invokevirtual 175, 3) := by decide +kernel
theorem dX7_readOrder_137 : decode cX7_readOrder 137 = .ok (.aload_n 0, 1) := by decide +kernel
theorem dX7_readOrder_138 : decode cX7_readOrder 138 = .ok (.getfield 39, 3) := by decide +kernel
theorem dX7_readOrder_141 : decode cX7_readOrder 141 = .ok (.iload_n 1, 1) := by decide +kernel
theorem dX7_readOrder_142 : decode cX7_readOrder 142 = .ok (.iconst 2, 1) := by decide +kernel
theorem dX7_readOrder_143 : decode cX7_readOrder 143 = .ok (.iadd, 1) := by decide +kernel
theorem dX7_readOrder_144 : decode cX7_readOrder 144 = .ok (.aload_n 0, 1) := by decide +kernel
theorem dX7_readOrder_145 : decode cX7_readOrder 145 = .ok (.iconst 1, 1) := by decide +kernel
theorem dX7_readOrder_146 : decode cX7_readOrder 146 = .ok (.bipush 9, 2) := by decide +kernel
theorem dX7_readOrder_148 : decode cX7_readOrder 148 = .ok (.invokevirtual 179, 3) := by decide +kernel
theorem dX7_readOrder_151 : decode cX7_readOrder 151 = .ok (.iastore, 1) := by decide +kernel
theorem dX7_readOrder_152 : decode cX7_readOrder 152 = .ok (.aload_n 0, 1) := by decide +kernel
theorem dX7_readOrder_153 : decode cX7_readOrder 153 = .ok (.getfield 39, 3) := by decide +kernel
theorem dX7_readOrder_156 : decode cX7_readOrder 156 = .ok (.iload_n 1, 1) := by decide +kernel
theorem dX7_readOrder_157 : decode cX7_readOrder 157 = .ok (.iconst 3, 1) := by decide +kernel
theorem dX7_readOrder_158 : decode cX7_readOrder 158 = .ok (.iadd, 1) := by decide +kernel
theorem dX7_readOrder_159 : decode cX7_readOrder 159 = .ok (.aload_n 0, 1) := by decide +kernel
theorem dX7_readOrder_160 : decode cX7_readOrder 160 = .ok (.invokevirtual 188, 3) := by decide +kernel
theorem dX7_readOrder_163 : decode cX7_readOrder 163 = .ok (.iastore, 1) := by decide +kernel
theorem dX7_readOrder_164 : decode cX7_readOrder 164 = .ok (.aload_n 0, 1) := by decide +kernel
theorem dX7_readOrder_165 : decode cX7_readOrder 165 = .ok (.dup, 1) := by decide +kernel
theorem dX7_readOrder_166 : decode cX7_readOrder 166 = .ok (.getfield 182, 3) := by decide +kernel
theorem dX7_readOrder_169 : decode cX7_readOrder 169 = .ok (.iconst 1, 1) := by decide +kernel
theorem dX7_readOrder_170 : decode cX7_readOrder 170 = .ok (.iadd, 1) := by decide +kernel
theorem dX7_readOrder_171 : decode cX7_readOrder 171 = .ok (.putfield 182, 3) := by decide +kernel
theorem dX7_readOrder_174 : decode cX7_readOrder 174 = .ok (.return_, 1) := by decide +kernel
set_option maxRecDepth 20000 in
theorem ggX7_readPad_X7_readOrder : GoodIn wsX7_readPad wsX7_readOrder := goodIn_r _ [9, 1, 10, 11, 12, 13, 8, 14, 2, 4, 15, 16, 17, 18, 19, 3, 20, 21, 22, 23, 24, 25, 26, 27, 28, 29, 30, 31, 32, 33, 34, 35, 36, 37, 38, 39, 40, 41, 42, 43, 44, 45, 46, 47, 48, 49] (by decide +kernel) (by decide +kernel)
set_option maxRecDepth 20000 in
theorem gX7_readPad_X7_readOrder : GoodIn wsX7_readPad (wsV RX7 191 RX7 yX7_readOrder wsX7_readOrder) := goodIn_app (goodIn_of _ (by decide +kernel)) ggX7_readPad_X7_readOrder
set_option maxRecDepth 20000 in
theorem ggX7_readPad_X7_letter : GoodIn wsX7_readPad wsX7_letter := goodIn_r _ [14, 2, 4, 15, 35, 36, 37, 38, 39, 40, 41, 42, 43, 44, 45, 46, 47, 48, 49] (by decide +kernel) (by decide +kernel)
set_option maxRecDepth 20000 in
theorem gX7_readPad_X7_letter : GoodIn wsX7_readPad (wsV RX7 172 RX7 yX7_letter wsX7_letter) := goodIn_app (goodIn_of _ (by decide +kernel)) ggX7_readPad_X7_letter
set_option maxRecDepth 20000 in
theorem ggX7_readPad_X7_wants : GoodIn wsX7_readPad wsX7_wants := goodIn_r _ [19, 3, 2, 35, 36, 37, 38, 39, 40, 41, 42, 43, 44, 45, 46, 47, 48, 49] (by decide +kernel) (by decide +kernel)
set_option maxRecDepth 20000 in
theorem gX7_readPad_X7_wants : GoodIn wsX7_readPad (wsV RX7 175 RX7 yX7_wants wsX7_wants) := goodIn_app (goodIn_of _ (by decide +kernel)) ggX7_readPad_X7_wants
theorem dX7_readPad_0 : decode cX7_readPad 0 = .ok (.aload_n 0, 1) := by decide +kernel
theorem dX7_readPad_1 : decode cX7_readPad 1 = .ok (.iconst 0, 1) := by decide +kernel
theorem dX7_readPad_2 : decode cX7_readPad 2 = .ok (.putfield 182, 3) := by decide +kernel
theorem dX7_readPad_5 : decode cX7_readPad 5 = .ok (.aload_n 0, 1) := by decide +kernel
theorem dX7_readPad_6 : decode cX7_readPad 6 = .ok (.iconst 0, 1) := by decide +kernel
theorem dX7_readPad_7 : decode cX7_readPad 7 = .ok (.putfield 166, 3) := by decide +kernel
theorem dX7_readPad_10 : decode cX7_readPad 10 = .ok (.aload_n 0, 1) := by decide +kernel
theorem dX7_readPad_11 : decode cX7_readPad 11 = .ok (.bipush (-6), 2) := by decide +kernel
theorem dX7_readPad_13 : decode cX7_readPad 13 = .ok (.putfield 169, 3) := by decide +kernel
theorem dX7_readPad_16 : decode cX7_readPad 16 = .ok (.iconst 1, 1) := by decide +kernel
theorem dX7_readPad_17 : decode cX7_readPad 17 = .ok (.istore_n 1, 1) := by decide +kernel
theorem dX7_readPad_18 : decode cX7_readPad 18 = .ok (.iload_n 1, 1) := by decide +kernel
theorem dX7_readPad_19 : decode cX7_readPad 19 = .ok (.ifCond .eq 73, 3) := by decide +kernel
theorem dX7_readPad_22 : decode cX7_readPad 22 = .ok (.aload_n 0, 1) := by decide +kernel
theorem dX7_readPad_23 : decode cX7_readPad 23 = .ok (.invokevirtual 191, 3) := by decide +kernel
theorem dX7_readPad_26 : decode cX7_readPad 26 = .ok (.aload_n 0, 1) := by decide +kernel
theorem dX7_readPad_27 : decode cX7_readPad 27 = .ok (.getfield 169, 3) := by decide +kernel
theorem dX7_readPad_30 : decode cX7_readPad 30 = .ok (.bipush (-6), 2) := by decide +kernel
theorem dX7_readPad_32 : decode cX7_readPad 32 = .ok (.if_icmp .ne 18, 3) := by decide +kernel
theorem dX7_readPad_35 : decode cX7_readPad 35 = .ok (.aload_n 0, 1) := by decide +kernel
theorem dX7_readPad_36 : decode cX7_readPad 36 = .ok (.getfield 166, 3) := by decide +kernel
theorem dX7_readPad_39 : decode cX7_readPad 39 = .ok (.aload_n 0, 1) := by decide +kernel
theorem dX7_readPad_40 : decode cX7_readPad 40 = .ok (.getfield 146, 3) := by decide +kernel
theorem dX7_readPad_43 : decode cX7_readPad 43 = .ok (.if_icmp .ge 7, 3) := by decide +kernel
theorem dX7_readPad_46 : decode cX7_readPad 46 = .ok (.iconst 1, 1) := by decide +kernel
theorem dX7_readPad_47 : decode cX7_readPad 47 = .ok (.goto 4, 3) := by decide +kernel
theorem dX7_readPad_50 : decode cX7_readPad 50 = .ok (.iconst 0, 1) := by decide +kernel
theorem dX7_readPad_51 : decode cX7_readPad 51 = .ok (.istore_n 1, 1) := by decide +kernel
theorem dX7_readPad_52 : decode cX7_readPad 52 = .ok (.iload_n 1, 1) := by decide +kernel
theorem dX7_readPad_53 : decode cX7_readPad 53 = .ok (.ifCond .eq (-35), 3) := by decide +kernel
theorem dX7_readPad_56 : decode cX7_readPad 56 = .ok (.aload_n 0, 1) := by decide +kernel
theorem dX7_readPad_57 : decode cX7_readPad 57 = .ok (.aload_n 0, 1) := by decide +kernel
theorem dX7_readPad_58 : decode cX7_readPad 58 = .ok (.invokevirtual 172, 3) := by decide +kernel
theorem dX7_readPad_61 : decode cX7_readPad 61 = .ok (.bipush 59, 2) := by decide +kernel
theorem dX7_readPad_63 : decode cX7_readPad 63 = .ok (.if_icmp .ne 7, 3) := by decide +kernel
theorem dX7_readPad_66 : decode cX7_readPad 66 = .ok (.iconst 1, 1) := by decide +kernel
theorem dX7_readPad_67 : decode cX7_readPad 67 = .ok (.goto 4, 3) := by decide +kernel
theorem dX7_readPad_70 : decode cX7_readPad 70 = .ok (.iconst 0, 1) := by decide +kernel
theorem dX7_readPad_71 : decode cX7_readPad 71 = .ok (.invokevirtual 175, 3) := by decide +kernel
theorem dX7_readPad_74 : decode cX7_readPad 74 = .ok (.aload_n 0, 1) := by decide +kernel
theorem dX7_readPad_75 : decode cX7_readPad 75 = .ok (.getfield 169, 3) := by decide +kernel
theorem dX7_readPad_78 : decode cX7_readPad 78 = .ok (.bipush (-6), 2) := by decide +kernel
theorem dX7_readPad_80 : decode cX7_readPad 80 = .ok (.if_icmp .ne 7, 3) := by decide +kernel
theorem dX7_readPad_83 : decode cX7_readPad 83 = .ok (.iconst 1, 1) := by decide +kernel
theorem dX7_readPad_84 : decode cX7_readPad 84 = .ok (.goto 4, 3) := by decide +kernel
theorem dX7_readPad_87 : decode cX7_readPad 87 = .ok (.iconst 0, 1) := by decide +kernel
theorem dX7_readPad_88 : decode cX7_readPad 88 = .ok (.istore_n 1, 1) := by decide +kernel
theorem dX7_readPad_89 : decode cX7_readPad 89 = .ok (.goto (-71), 3) := by decide +kernel
theorem dX7_readPad_92 : decode cX7_readPad 92 = .ok (.aload_n 0, 1) := by decide +kernel
theorem dX7_readPad_93 : decode cX7_readPad 93 = .ok (.getfield 169, 3) := by decide +kernel
theorem dX7_readPad_96 : decode cX7_readPad 96 = .ok (.ireturn, 1) := by decide +kernel
set_option maxRecDepth 20000 in
theorem ggX7_fault_X7_readPad : GoodIn wsX7_fault wsX7_readPad := goodIn_r _ [5, 6, 7, 8, 9, 10, 11, 12, 4, 13, 14, 15, 16, 17, 18, 19, 20, 21, 22, 23, 24, 25, 26, 27, 28, 29, 30, 31, 32, 33, 34, 35, 36, 37, 38, 39, 40, 41, 42, 43, 44, 45, 46, 47, 48, 49, 50, 51, 52, 53] (by decide +kernel) (by decide +kernel)
set_option maxRecDepth 20000 in
theorem gX7_fault_X7_readPad : GoodIn wsX7_fault (wsV RX7 194 RX7 yX7_readPad wsX7_readPad) := goodIn_app (goodIn_of _ (by decide +kernel)) ggX7_fault_X7_readPad
theorem dX7_fault_0 : decode cX7_fault 0 = .ok (.aload_n 0, 1) := by decide +kernel
theorem dX7_fault_1 : decode cX7_fault 1 = .ok (.invokevirtual 194, 3) := by decide +kernel
theorem dX7_fault_4 : decode cX7_fault 4 = .ok (.ireturn, 1) := by decide +kernel
set_option maxRecDepth 20000 in
theorem ggX7_whyNot_X7_whyNotClaim : GoodIn wsX7_whyNot wsX7_whyNotClaim := goodIn_r _ [5, 6, 7, 8, 4, 9, 10, 11, 12, 45, 46, 47, 48, 49, 50, 51, 52, 53, 54, 55, 56, 57, 58, 59] (by decide +kernel) (by decide +kernel)
set_option maxRecDepth 20000 in
theorem gX7_whyNot_X7_whyNotClaim : GoodIn wsX7_whyNot (wsV RX7 88 RX7 yX7_whyNotClaim wsX7_whyNotClaim) := goodIn_app (goodIn_of _ (by decide +kernel)) ggX7_whyNot_X7_whyNotClaim
set_option maxRecDepth 20000 in
theorem ggX7_whyNot_X7_whyNotAnswer : GoodIn wsX7_whyNot wsX7_whyNotAnswer := goodIn_r _ [16, 6, 17, 18, 19, 4, 20, 10, 11, 12, 7, 8, 9, 21, 22, 23, 24, 25, 26, 27, 28, 45, 46, 47, 48, 49, 50, 51, 52, 53, 54, 55, 56, 57, 58, 59] (by decide +kernel) (by decide +kernel)
set_option maxRecDepth 20000 in
theorem gX7_whyNot_X7_whyNotAnswer : GoodIn wsX7_whyNot (wsV RX7 99 RX7 yX7_whyNotAnswer wsX7_whyNotAnswer) := goodIn_app (goodIn_of _ (by decide +kernel)) ggX7_whyNot_X7_whyNotAnswer
set_option maxRecDepth 20000 in
theorem ggX7_whyNot_X7_whyNotWithdraw : GoodIn wsX7_whyNot wsX7_whyNotWithdraw := goodIn_r _ [32, 17, 18, 19, 4, 20, 6, 21, 22, 23, 24, 25, 26, 27, 28, 45, 46, 47, 48, 49, 50, 51, 52, 53, 54, 55, 56, 57, 58, 59] (by decide +kernel) (by decide +kernel)
set_option maxRecDepth 20000 in
theorem gX7_whyNot_X7_whyNotWithdraw : GoodIn wsX7_whyNot (wsV RX7 102 RX7 yX7_whyNotWithdraw wsX7_whyNotWithdraw) := goodIn_app (goodIn_of _ (by decide +kernel)) ggX7_whyNot_X7_whyNotWithdraw
set_option maxRecDepth 20000 in
theorem ggX7_whyNot_X7_whyNotRenew : GoodIn wsX7_whyNot wsX7_whyNotRenew := goodIn_r _ [36, 17, 18, 19, 4, 20, 6, 37, 38, 39, 40, 25, 26, 27, 28, 21, 22, 23, 24, 45, 46, 47, 48, 49, 50, 51, 52, 53, 54, 55, 56, 57, 58, 59] (by decide +kernel) (by decide +kernel)
set_option maxRecDepth 20000 in
theorem gX7_whyNot_X7_whyNotRenew : GoodIn wsX7_whyNot (wsV RX7 116 RX7 yX7_whyNotRenew wsX7_whyNotRenew) := goodIn_app (goodIn_of _ (by decide +kernel)) ggX7_whyNot_X7_whyNotRenew
set_option maxRecDepth 20000 in
theorem ggX7_whyNot_X7_whyNotPass : GoodIn wsX7_whyNot wsX7_whyNotPass := goodIn_r _ [44, 6, 7, 8, 4, 9, 45, 46, 47, 48, 49, 50, 51, 52, 53, 54, 55, 56, 57, 58, 59] (by decide +kernel) (by decide +kernel)
set_option maxRecDepth 20000 in
theorem gX7_whyNot_X7_whyNotPass : GoodIn wsX7_whyNot (wsV RX7 122 RX7 yX7_whyNotPass wsX7_whyNotPass) := goodIn_app (goodIn_of _ (by decide +kernel)) ggX7_whyNot_X7_whyNotPass
theorem dX7_whyNot_0 : decode cX7_whyNot 0 = .ok (.iload_n 1, 1) := by decide +kernel
theorem dX7_whyNot_1 : decode cX7_whyNot 1 = .ok (.lookupswitch 87 #[(97, 60), (99, 51), (114, 75), (116, 81), (119, 69)], 51) := by decide +kernel
theorem dX7_whyNot_52 : decode cX7_whyNot 52 = .ok (.aload_n 0, 1) := by decide +kernel
theorem dX7_whyNot_53 : decode cX7_whyNot 53 = .ok (.iload_n 2, 1) := by decide +kernel
theorem dX7_whyNot_54 : decode cX7_whyNot 54 = .ok (.iload_n 3, 1) := by decide +kernel
theorem dX7_whyNot_55 : decode cX7_whyNot 55 = .ok (.iload 4, 2) := by decide +kernel
theorem dX7_whyNot_57 : decode cX7_whyNot 57 = .ok (.invokevirtual 88, 3) := by decide +kernel
theorem dX7_whyNot_60 : decode cX7_whyNot 60 = .ok (.ireturn, 1) := by decide +kernel
theorem dX7_whyNot_61 : decode cX7_whyNot 61 = .ok (.aload_n 0, 1) := by decide +kernel
theorem dX7_whyNot_62 : decode cX7_whyNot 62 = .ok (.iload_n 2, 1) := by decide +kernel
theorem dX7_whyNot_63 : decode cX7_whyNot 63 = .ok (.iload_n 3, 1) := by decide +kernel
theorem dX7_whyNot_64 : decode cX7_whyNot 64 = .ok (.iload 4, 2) := by decide +kernel
theorem dX7_whyNot_66 : decode cX7_whyNot 66 = .ok (.invokevirtual 99, 3) := by decide +kernel
theorem dX7_whyNot_69 : decode cX7_whyNot 69 = .ok (.ireturn, 1) := by decide +kernel
theorem dX7_whyNot_70 : decode cX7_whyNot 70 = .ok (.aload_n 0, 1) := by decide +kernel
theorem dX7_whyNot_71 : decode cX7_whyNot 71 = .ok (.iload_n 2, 1) := by decide +kernel
theorem dX7_whyNot_72 : decode cX7_whyNot 72 = .ok (.invokevirtual 102, 3) := by decide +kernel
theorem dX7_whyNot_75 : decode cX7_whyNot 75 = .ok (.ireturn, 1) := by decide +kernel
theorem dX7_whyNot_76 : decode cX7_whyNot 76 = .ok (.aload_n 0, 1) := by decide +kernel
theorem dX7_whyNot_77 : decode cX7_whyNot 77 = .ok (.iload_n 2, 1) := by decide +kernel
theorem dX7_whyNot_78 : decode cX7_whyNot 78 = .ok (.invokevirtual 116, 3) := by decide +kernel
theorem dX7_whyNot_81 : decode cX7_whyNot 81 = .ok (.ireturn, 1) := by decide +kernel
theorem dX7_whyNot_82 : decode cX7_whyNot 82 = .ok (.aload_n 0, 1) := by decide +kernel
theorem dX7_whyNot_83 : decode cX7_whyNot 83 = .ok (.iload_n 2, 1) := by decide +kernel
theorem dX7_whyNot_84 : decode cX7_whyNot 84 = .ok (.invokevirtual 122, 3) := by decide +kernel
theorem dX7_whyNot_87 : decode cX7_whyNot 87 = .ok (.ireturn, 1) := by decide +kernel
theorem dX7_whyNot_88 : decode cX7_whyNot 88 = .ok (.iconst 0, 1) := by decide +kernel
theorem dX7_whyNot_89 : decode cX7_whyNot 89 = .ok (.ireturn, 1) := by decide +kernel
set_option maxRecDepth 20000 in
theorem ggX7_does_X7_whyNot : GoodIn wsX7_does wsX7_whyNot := goodIn_r _ [7, 8, 9, 10, 6, 11, 2, 12, 13, 14, 15, 16, 17, 18, 19, 20, 21, 22, 23, 24, 25, 26, 27, 28, 29, 30, 31, 32, 33, 34, 35, 36, 37, 38, 39, 40, 41, 42, 43, 44, 45, 46, 47, 48, 49, 62, 63, 64, 65, 66, 67, 68, 69, 70, 71, 72, 73, 74, 75, 76] (by decide +kernel) (by decide +kernel)
set_option maxRecDepth 20000 in
theorem gX7_does_X7_whyNot : GoodIn wsX7_does (wsV RX7 197 RX7 yX7_whyNot wsX7_whyNot) := goodIn_app (goodIn_of _ (by decide +kernel)) ggX7_does_X7_whyNot
set_option maxRecDepth 20000 in
theorem ggX7_does_X7_file : GoodIn wsX7_does wsX7_file := goodIn_r _ [53, 2, 54, 55, 56, 6, 57, 62, 63, 64, 65, 66, 67, 68, 69, 70, 71, 72, 73, 74, 75, 76] (by decide +kernel) (by decide +kernel)
set_option maxRecDepth 20000 in
theorem gX7_does_X7_file : GoodIn wsX7_does (wsV RX7 92 RX7 yX7_file wsX7_file) := goodIn_app (goodIn_of _ (by decide +kernel)) ggX7_does_X7_file
set_option maxRecDepth 20000 in
theorem ggX7_does_X7_its : GoodIn wsX7_does wsX7_its := goodIn_r _ [33, 2, 62, 63, 64, 65, 66, 67, 68, 69, 70, 71, 72, 73, 74, 75, 76] (by decide +kernel) (by decide +kernel)
set_option maxRecDepth 20000 in
theorem gX7_does_X7_its : GoodIn wsX7_does (wsV RX7 42 RX7 yX7_its wsX7_its) := goodIn_app (goodIn_of _ (by decide +kernel)) ggX7_does_X7_its
set_option maxRecDepth 20000 in
theorem ggX7_does_X7_lay : GoodIn wsX7_does wsX7_lay := goodIn_r _ [57, 2, 62, 63, 64, 65, 66, 67, 68, 69, 70, 71, 72, 73, 74, 75, 76] (by decide +kernel) (by decide +kernel)
set_option maxRecDepth 20000 in
theorem gX7_does_X7_lay : GoodIn wsX7_does (wsV RX7 81 RX7 yX7_lay wsX7_lay) := goodIn_app (goodIn_of _ (by decide +kernel)) ggX7_does_X7_lay
set_option maxRecDepth 20000 in
theorem ggX7_does_X7_overruleIt : GoodIn wsX7_does wsX7_overruleIt := goodIn_r _ [61, 2, 62, 63, 64, 65, 66, 67, 68, 69, 70, 71, 72, 73, 74, 75, 76] (by decide +kernel) (by decide +kernel)
set_option maxRecDepth 20000 in
theorem gX7_does_X7_overruleIt : GoodIn wsX7_does (wsV RX7 119 RX7 yX7_overruleIt wsX7_overruleIt) := goodIn_app (goodIn_of _ (by decide +kernel)) ggX7_does_X7_overruleIt
theorem dX7_does_0 : decode cX7_does 0 = .ok (.aload_n 0, 1) := by decide +kernel
theorem dX7_does_1 : decode cX7_does 1 = .ok (.getfield 39, 3) := by decide +kernel
theorem dX7_does_4 : decode cX7_does 4 = .ok (.iconst 4, 1) := by decide +kernel
theorem dX7_does_5 : decode cX7_does 5 = .ok (.iload_n 1, 1) := by decide +kernel
theorem dX7_does_6 : decode cX7_does 6 = .ok (.imul, 1) := by decide +kernel
theorem dX7_does_7 : decode cX7_does 7 = .ok (.iconst 1, 1) := by decide +kernel
theorem dX7_does_8 : decode cX7_does 8 = .ok (.iadd, 1) := by decide +kernel
theorem dX7_does_9 : decode cX7_does 9 = .ok (.iaload, 1) := by decide +kernel
theorem dX7_does_10 : decode cX7_does 10 = .ok (.istore_n 2, 1) := by decide +kernel
theorem dX7_does_11 : decode cX7_does 11 = .ok (.aload_n 0, 1) := by decide +kernel
theorem dX7_does_12 : decode cX7_does 12 = .ok (.getfield 39, 3) := by decide +kernel
theorem dX7_does_15 : decode cX7_does 15 = .ok (.iconst 4, 1) := by decide +kernel
theorem dX7_does_16 : decode cX7_does 16 = .ok (.iload_n 1, 1) := by decide +kernel
theorem dX7_does_17 : decode cX7_does 17 = .ok (.imul, 1) := by decide +kernel
theorem dX7_does_18 : decode cX7_does 18 = .ok (.iconst 2, 1) := by decide +kernel
theorem dX7_does_19 : decode cX7_does 19 = .ok (.iadd, 1) := by decide +kernel
theorem dX7_does_20 : decode cX7_does 20 = .ok (.iaload, 1) := by decide +kernel
theorem dX7_does_21 : decode cX7_does 21 = .ok (.istore_n 3, 1) := by decide +kernel
theorem dX7_does_22 : decode cX7_does 22 = .ok (.aload_n 0, 1) := by decide +kernel
theorem dX7_does_23 : decode cX7_does 23 = .ok (.getfield 39, 3) := by decide +kernel
theorem dX7_does_26 : decode cX7_does 26 = .ok (.iconst 4, 1) := by decide +kernel
theorem dX7_does_27 : decode cX7_does 27 = .ok (.iload_n 1, 1) := by decide +kernel
theorem dX7_does_28 : decode cX7_does 28 = .ok (.imul, 1) := by decide +kernel
theorem dX7_does_29 : decode cX7_does 29 = .ok (.iconst 3, 1) := by decide +kernel
theorem dX7_does_30 : decode cX7_does 30 = .ok (.iadd, 1) := by decide +kernel
theorem dX7_does_31 : decode cX7_does 31 = .ok (.iaload, 1) := by decide +kernel
theorem dX7_does_32 : decode cX7_does 32 = .ok (.istore 4, 2) := by decide +kernel
theorem dX7_does_34 : decode cX7_does 34 = .ok (.aload_n 0, 1) := by decide +kernel
theorem dX7_does_35 : decode cX7_does 35 = .ok (.aload_n 0, 1) := by decide +kernel
theorem dX7_does_36 : decode cX7_does 36 = .ok (.getfield 39, 3) := by decide +kernel
theorem dX7_does_39 : decode cX7_does 39 = .ok (.iconst 4, 1) := by decide +kernel
theorem dX7_does_40 : decode cX7_does 40 = .ok (.iload_n 1, 1) := by decide +kernel
theorem dX7_does_41 : decode cX7_does 41 = .ok (.imul, 1) := by decide +kernel
theorem dX7_does_42 : decode cX7_does 42 = .ok (.iaload, 1) := by decide +kernel
theorem dX7_does_43 : decode cX7_does 43 = .ok (.iload_n 2, 1) := by decide +kernel
theorem dX7_does_44 : decode cX7_does 44 = .ok (.iload_n 3, 1) := by decide +kernel
theorem dX7_does_45 : decode cX7_does 45 = .ok (.iload 4, 2) := by decide +kernel
theorem dX7_does_47 : decode cX7_does 47 = .ok (.invokevirtual 197, 3) := by decide +kernel
theorem dX7_does_50 : decode cX7_does 50 = .ok (.ifCond .ge 5, 3) := by decide +kernel
theorem dX7_does_53 : decode cX7_does 53 = .ok (.iconst 0, 1) := by decide +kernel
theorem dX7_does_54 : decode cX7_does 54 = .ok (.ireturn, 1) := by decide +kernel
theorem dX7_does_55 : decode cX7_does 55 = .ok (.aload_n 0, 1) := by decide +kernel
theorem dX7_does_56 : decode cX7_does 56 = .ok (.getfield 39, 3) := by decide +kernel
theorem dX7_does_59 : decode cX7_does 59 = .ok (.iconst 4, 1) := by decide +kernel
theorem dX7_does_60 : decode cX7_does 60 = .ok (.iload_n 1, 1) := by decide +kernel
theorem dX7_does_61 : decode cX7_does 61 = .ok (.imul, 1) := by decide +kernel
theorem dX7_does_62 : decode cX7_does 62 = .ok (.iaload, 1) := by decide +kernel
theorem dX7_does_63 : decode cX7_does 63 = .ok (.lookupswitch 122 #[(97, 63), (99, 49), (114, 94), (116, 109), (119, 83)], 49) := by decide +kernel
theorem dX7_does_112 : decode cX7_does 112 = .ok (.aload_n 0, 1) := by decide +kernel
theorem dX7_does_113 : decode cX7_does 113 = .ok (.iload_n 2, 1) := by decide +kernel
theorem dX7_does_114 : decode cX7_does 114 = .ok (.bipush (-6), 2) := by decide +kernel
theorem dX7_does_116 : decode cX7_does 116 = .ok (.iload_n 3, 1) := by decide +kernel
theorem dX7_does_117 : decode cX7_does 117 = .ok (.iload 4, 2) := by decide +kernel
theorem dX7_does_119 : decode cX7_does 119 = .ok (.invokevirtual 92, 3) := by decide +kernel
theorem dX7_does_122 : decode cX7_does 122 = .ok (.pop, 1) := by decide +kernel
theorem dX7_does_123 : decode cX7_does 123 = .ok (.goto 68, 3) := by decide +kernel
theorem dX7_does_126 : decode cX7_does 126 = .ok (.aload_n 0, 1) := by decide +kernel
theorem dX7_does_127 : decode cX7_does 127 = .ok (.iconst 1, 1) := by decide +kernel
theorem dX7_does_128 : decode cX7_does 128 = .ok (.aload_n 0, 1) := by decide +kernel
theorem dX7_does_129 : decode cX7_does 129 = .ok (.iload_n 2, 1) := by decide +kernel
theorem dX7_does_130 : decode cX7_does 130 = .ok (.iconst 0, 1) := by decide +kernel
theorem dX7_does_131 : decode cX7_does 131 = .ok (.invokevirtual 42, 3) := by decide +kernel
theorem dX7_does_134 : decode cX7_does 134 = .ok (.isub, 1) := by decide +kernel
theorem dX7_does_135 : decode cX7_does 135 = .ok (.iload_n 2, 1) := by decide +kernel
theorem dX7_does_136 : decode cX7_does 136 = .ok (.iload_n 3, 1) := by decide +kernel
theorem dX7_does_137 : decode cX7_does 137 = .ok (.iload 4, 2) := by decide +kernel
theorem dX7_does_139 : decode cX7_does 139 = .ok (.invokevirtual 92, 3) := by decide +kernel
theorem dX7_does_142 : decode cX7_does 142 = .ok (.pop, 1) := by decide +kernel
theorem dX7_does_143 : decode cX7_does 143 = .ok (.goto 48, 3) := by decide +kernel
theorem dX7_does_146 : decode cX7_does 146 = .ok (.aload_n 0, 1) := by decide +kernel
theorem dX7_does_147 : decode cX7_does 147 = .ok (.iload_n 2, 1) := by decide +kernel
theorem dX7_does_148 : decode cX7_does 148 = .ok (.bipush 6, 2) := by decide +kernel
theorem dX7_does_150 : decode cX7_does 150 = .ok (.iconst 1, 1) := by decide +kernel
theorem dX7_does_151 : decode cX7_does 151 = .ok (.invokevirtual 81, 3) := by decide +kernel
theorem dX7_does_154 : decode cX7_does 154 = .ok (.goto 37, 3) := by decide +kernel
theorem dX7_does_157 : decode cX7_does 157 = .ok (.aload_n 0, 1) := by decide +kernel
theorem dX7_does_158 : decode cX7_does 158 = .ok (.iload_n 2, 1) := by decide +kernel
theorem dX7_does_159 : decode cX7_does 159 = .ok (.iconst 3, 1) := by decide +kernel
theorem dX7_does_160 : decode cX7_does 160 = .ok (.aload_n 0, 1) := by decide +kernel
theorem dX7_does_161 : decode cX7_does 161 = .ok (.getfield 7, 3) := by decide +kernel
theorem dX7_does_164 : decode cX7_does 164 = .ok (.iconst 2, 1) := by decide +kernel
theorem dX7_does_165 : decode cX7_does 165 = .ok (.iaload, 1) := by decide +kernel
theorem dX7_does_166 : decode cX7_does 166 = .ok (.invokevirtual 81, 3) := by decide +kernel
theorem dX7_does_169 : decode cX7_does 169 = .ok (.goto 22, 3) := by decide +kernel
theorem dX7_does_172 : decode cX7_does 172 = .ok (.aload_n 0, 1) := by decide +kernel
theorem dX7_does_173 : decode cX7_does 173 = .ok (.getfield 7, 3) := by decide +kernel
theorem dX7_does_176 : decode cX7_does 176 = .ok (.iconst 2, 1) := by decide +kernel
theorem dX7_does_177 : decode cX7_does 177 = .ok (.dup2, 1) := by decide +kernel
theorem dX7_does_178 : decode cX7_does 178 = .ok (.iaload, 1) := by decide +kernel
theorem dX7_does_179 : decode cX7_does 179 = .ok (.iload_n 2, 1) := by decide +kernel
theorem dX7_does_180 : decode cX7_does 180 = .ok (.iadd, 1) := by decide +kernel
theorem dX7_does_181 : decode cX7_does 181 = .ok (.iastore, 1) := by decide +kernel
theorem dX7_does_182 : decode cX7_does 182 = .ok (.goto 9, 3) := by decide +kernel
theorem dX7_does_185 : decode cX7_does 185 = .ok (.aload_n 0, 1) := by decide +kernel
theorem dX7_does_186 : decode cX7_does 186 = .ok (.iload_n 2, 1) := by decide +kernel
theorem dX7_does_187 : decode cX7_does 187 = .ok (.invokevirtual 119, 3) := by decide +kernel
theorem dX7_does_190 : decode cX7_does 190 = .ok (.pop, 1) := by decide +kernel
theorem dX7_does_191 : decode cX7_does 191 = .ok (.iconst 1, 1) := by decide +kernel
theorem dX7_does_192 : decode cX7_does 192 = .ok (.ireturn, 1) := by decide +kernel
set_option maxRecDepth 20000 in
theorem ggX7_carryOut_X7_readPad : GoodIn wsX7_carryOut wsX7_readPad := goodIn_r _ [7, 1, 8, 9, 2, 10, 11, 12, 6, 13, 14, 15, 16, 17, 18, 19, 20, 21, 22, 23, 24, 25, 26, 27, 28, 29, 30, 31, 32, 33, 34, 35, 36, 37, 38, 105, 106, 107, 108, 109, 110, 111, 112, 113, 114, 115, 116, 117, 118, 119] (by decide +kernel) (by decide +kernel)
set_option maxRecDepth 20000 in
theorem gX7_carryOut_X7_readPad : GoodIn wsX7_carryOut (wsV RX7 194 RX7 yX7_readPad wsX7_readPad) := goodIn_app (goodIn_of _ (by decide +kernel)) ggX7_carryOut_X7_readPad
set_option maxRecDepth 20000 in
theorem ggX7_carryOut_X7_record : GoodIn wsX7_carryOut wsX7_record := goodIn_r _ [42, 43, 44, 45, 105, 106, 107, 108, 109, 110, 111, 112, 113, 114, 115, 116, 117, 118, 119] (by decide +kernel) (by decide +kernel)
set_option maxRecDepth 20000 in
theorem gX7_carryOut_X7_record : GoodIn wsX7_carryOut (wsV RX7 54 RX7 yX7_record wsX7_record) := goodIn_app (goodIn_of _ (by decide +kernel)) ggX7_carryOut_X7_record
set_option maxRecDepth 20000 in
theorem ggX7_carryOut_X7_does : GoodIn wsX7_carryOut wsX7_does := goodIn_r _ [49, 14, 45, 50, 51, 52, 6, 53, 54, 55, 56, 57, 28, 29, 30, 58, 59, 60, 61, 62, 63, 64, 65, 66, 67, 68, 69, 70, 71, 72, 73, 74, 75, 76, 77, 78, 79, 80, 81, 82, 83, 84, 85, 86, 87, 88, 89, 90, 91, 92, 93, 94, 95, 96, 97, 98, 99, 100, 101, 102, 103, 104, 105, 106, 107, 108, 109, 110, 111, 112, 113, 114, 115, 116, 117, 118, 119] (by decide +kernel) (by decide +kernel)
set_option maxRecDepth 20000 in
theorem gX7_carryOut_X7_does : GoodIn wsX7_carryOut (wsV RX7 200 RX7 yX7_does wsX7_does) := goodIn_app (goodIn_of _ (by decide +kernel)) ggX7_carryOut_X7_does
theorem dX7_carryOut_0 : decode cX7_carryOut 0 = .ok (.aload_n 0, 1) := by decide +kernel
theorem dX7_carryOut_1 : decode cX7_carryOut 1 = .ok (.invokevirtual 194, 3) := by decide +kernel
theorem dX7_carryOut_4 : decode cX7_carryOut 4 = .ok (.bipush (-6), 2) := by decide +kernel
theorem dX7_carryOut_6 : decode cX7_carryOut 6 = .ok (.if_icmp .eq 6, 3) := by decide +kernel
theorem dX7_carryOut_9 : decode cX7_carryOut 9 = .ok (.bipush (-3), 2) := by decide +kernel
theorem dX7_carryOut_11 : decode cX7_carryOut 11 = .ok (.ireturn, 1) := by decide +kernel
theorem dX7_carryOut_12 : decode cX7_carryOut 12 = .ok (.aload_n 0, 1) := by decide +kernel
theorem dX7_carryOut_13 : decode cX7_carryOut 13 = .ok (.invokevirtual 54, 3) := by decide +kernel
theorem dX7_carryOut_16 : decode cX7_carryOut 16 = .ok (.iconst 0, 1) := by decide +kernel
theorem dX7_carryOut_17 : decode cX7_carryOut 17 = .ok (.istore_n 1, 1) := by decide +kernel
theorem dX7_carryOut_18 : decode cX7_carryOut 18 = .ok (.iload_n 1, 1) := by decide +kernel
theorem dX7_carryOut_19 : decode cX7_carryOut 19 = .ok (.aload_n 0, 1) := by decide +kernel
theorem dX7_carryOut_20 : decode cX7_carryOut 20 = .ok (.getfield 182, 3) := by decide +kernel
theorem dX7_carryOut_23 : decode cX7_carryOut 23 = .ok (.if_icmp .ge 17, 3) := by decide +kernel
theorem dX7_carryOut_26 : decode cX7_carryOut 26 = .ok (.aload_n 0, 1) := by decide +kernel
theorem dX7_carryOut_27 : decode cX7_carryOut 27 = .ok (.iload_n 1, 1) := by decide +kernel
theorem dX7_carryOut_28 : decode cX7_carryOut 28 = .ok (.invokevirtual 200, 3) := by decide +kernel
theorem dX7_carryOut_31 : decode cX7_carryOut 31 = .ok (.ifCond .eq 9, 3) := by decide +kernel
theorem dX7_carryOut_34 : decode cX7_carryOut 34 = .ok (.iinc 1 1, 3) := by decide +kernel
theorem dX7_carryOut_37 : decode cX7_carryOut 37 = .ok (.goto (-19), 3) := by decide +kernel
theorem dX7_carryOut_40 : decode cX7_carryOut 40 = .ok (.aload_n 0, 1) := by decide +kernel
theorem dX7_carryOut_41 : decode cX7_carryOut 41 = .ok (.iconst 0, 1) := by decide +kernel
theorem dX7_carryOut_42 : decode cX7_carryOut 42 = .ok (.putfield 146, 3) := by decide +kernel
theorem dX7_carryOut_45 : decode cX7_carryOut 45 = .ok (.iload_n 1, 1) := by decide +kernel
theorem dX7_carryOut_46 : decode cX7_carryOut 46 = .ok (.ireturn, 1) := by decide +kernel
theorem dJ6_bitCount_0f7a4_0 : decode cJ6_bitCount_0f7a4 0 = .ok (.iload_n 0, 1) := by decide +kernel
theorem dJ6_bitCount_0f7a4_1 : decode cJ6_bitCount_0f7a4 1 = .ok (.iload_n 0, 1) := by decide +kernel
theorem dJ6_bitCount_0f7a4_2 : decode cJ6_bitCount_0f7a4 2 = .ok (.iconst 1, 1) := by decide +kernel
theorem dJ6_bitCount_0f7a4_3 : decode cJ6_bitCount_0f7a4 3 = .ok (.iushr, 1) := by decide +kernel
theorem dJ6_bitCount_0f7a4_4 : decode cJ6_bitCount_0f7a4 4 = .ok (.ldc_w 265, 3) := by decide +kernel
theorem dJ6_bitCount_0f7a4_7 : decode cJ6_bitCount_0f7a4 7 = .ok (.iand, 1) := by decide +kernel
theorem dJ6_bitCount_0f7a4_8 : decode cJ6_bitCount_0f7a4 8 = .ok (.isub, 1) := by decide +kernel
theorem dJ6_bitCount_0f7a4_9 : decode cJ6_bitCount_0f7a4 9 = .ok (.istore_n 0, 1) := by decide +kernel
theorem dJ6_bitCount_0f7a4_10 : decode cJ6_bitCount_0f7a4 10 = .ok (.iload_n 0, 1) := by decide +kernel
theorem dJ6_bitCount_0f7a4_11 : decode cJ6_bitCount_0f7a4 11 = .ok (.ldc_w 266, 3) := by decide +kernel
theorem dJ6_bitCount_0f7a4_14 : decode cJ6_bitCount_0f7a4 14 = .ok (.iand, 1) := by decide +kernel
theorem dJ6_bitCount_0f7a4_15 : decode cJ6_bitCount_0f7a4 15 = .ok (.iload_n 0, 1) := by decide +kernel
theorem dJ6_bitCount_0f7a4_16 : decode cJ6_bitCount_0f7a4 16 = .ok (.iconst 2, 1) := by decide +kernel
theorem dJ6_bitCount_0f7a4_17 : decode cJ6_bitCount_0f7a4 17 = .ok (.iushr, 1) := by decide +kernel
theorem dJ6_bitCount_0f7a4_18 : decode cJ6_bitCount_0f7a4 18 = .ok (.ldc_w 266, 3) := by decide +kernel
theorem dJ6_bitCount_0f7a4_21 : decode cJ6_bitCount_0f7a4 21 = .ok (.iand, 1) := by decide +kernel
theorem dJ6_bitCount_0f7a4_22 : decode cJ6_bitCount_0f7a4 22 = .ok (.iadd, 1) := by decide +kernel
theorem dJ6_bitCount_0f7a4_23 : decode cJ6_bitCount_0f7a4 23 = .ok (.istore_n 0, 1) := by decide +kernel
theorem dJ6_bitCount_0f7a4_24 : decode cJ6_bitCount_0f7a4 24 = .ok (.iload_n 0, 1) := by decide +kernel
theorem dJ6_bitCount_0f7a4_25 : decode cJ6_bitCount_0f7a4 25 = .ok (.iload_n 0, 1) := by decide +kernel
theorem dJ6_bitCount_0f7a4_26 : decode cJ6_bitCount_0f7a4 26 = .ok (.iconst 4, 1) := by decide +kernel
theorem dJ6_bitCount_0f7a4_27 : decode cJ6_bitCount_0f7a4 27 = .ok (.iushr, 1) := by decide +kernel
theorem dJ6_bitCount_0f7a4_28 : decode cJ6_bitCount_0f7a4 28 = .ok (.iadd, 1) := by decide +kernel
theorem dJ6_bitCount_0f7a4_29 : decode cJ6_bitCount_0f7a4 29 = .ok (.ldc_w 267, 3) := by decide +kernel
theorem dJ6_bitCount_0f7a4_32 : decode cJ6_bitCount_0f7a4 32 = .ok (.iand, 1) := by decide +kernel
theorem dJ6_bitCount_0f7a4_33 : decode cJ6_bitCount_0f7a4 33 = .ok (.istore_n 0, 1) := by decide +kernel
theorem dJ6_bitCount_0f7a4_34 : decode cJ6_bitCount_0f7a4 34 = .ok (.iload_n 0, 1) := by decide +kernel
theorem dJ6_bitCount_0f7a4_35 : decode cJ6_bitCount_0f7a4 35 = .ok (.iload_n 0, 1) := by decide +kernel
theorem dJ6_bitCount_0f7a4_36 : decode cJ6_bitCount_0f7a4 36 = .ok (.bipush 8, 2) := by decide +kernel
theorem dJ6_bitCount_0f7a4_38 : decode cJ6_bitCount_0f7a4 38 = .ok (.iushr, 1) := by decide +kernel
theorem dJ6_bitCount_0f7a4_39 : decode cJ6_bitCount_0f7a4 39 = .ok (.iadd, 1) := by decide +kernel
theorem dJ6_bitCount_0f7a4_40 : decode cJ6_bitCount_0f7a4 40 = .ok (.istore_n 0, 1) := by decide +kernel
theorem dJ6_bitCount_0f7a4_41 : decode cJ6_bitCount_0f7a4 41 = .ok (.iload_n 0, 1) := by decide +kernel
theorem dJ6_bitCount_0f7a4_42 : decode cJ6_bitCount_0f7a4 42 = .ok (.iload_n 0, 1) := by decide +kernel
theorem dJ6_bitCount_0f7a4_43 : decode cJ6_bitCount_0f7a4 43 = .ok (.bipush 16, 2) := by decide +kernel
theorem dJ6_bitCount_0f7a4_45 : decode cJ6_bitCount_0f7a4 45 = .ok (.iushr, 1) := by decide +kernel
theorem dJ6_bitCount_0f7a4_46 : decode cJ6_bitCount_0f7a4 46 = .ok (.iadd, 1) := by decide +kernel
theorem dJ6_bitCount_0f7a4_47 : decode cJ6_bitCount_0f7a4 47 = .ok (.istore_n 0, 1) := by decide +kernel
theorem dJ6_bitCount_0f7a4_48 : decode cJ6_bitCount_0f7a4 48 = .ok (.iload_n 0, 1) := by decide +kernel
theorem dJ6_bitCount_0f7a4_49 : decode cJ6_bitCount_0f7a4 49 = .ok (.bipush 63, 2) := by decide +kernel
theorem dJ6_bitCount_0f7a4_51 : decode cJ6_bitCount_0f7a4 51 = .ok (.iand, 1) := by decide +kernel
theorem dJ6_bitCount_0f7a4_52 : decode cJ6_bitCount_0f7a4 52 = .ok (.ireturn, 1) := by decide +kernel
theorem dJ9_max_7cf53_0 : decode cJ9_max_7cf53 0 = .ok (.iload_n 0, 1) := by decide +kernel
theorem dJ9_max_7cf53_1 : decode cJ9_max_7cf53 1 = .ok (.iload_n 1, 1) := by decide +kernel
theorem dJ9_max_7cf53_2 : decode cJ9_max_7cf53 2 = .ok (.if_icmp .lt 7, 3) := by decide +kernel
theorem dJ9_max_7cf53_5 : decode cJ9_max_7cf53 5 = .ok (.iload_n 0, 1) := by decide +kernel
theorem dJ9_max_7cf53_6 : decode cJ9_max_7cf53 6 = .ok (.goto 4, 3) := by decide +kernel
theorem dJ9_max_7cf53_9 : decode cJ9_max_7cf53 9 = .ok (.iload_n 1, 1) := by decide +kernel
theorem dJ9_max_7cf53_10 : decode cJ9_max_7cf53 10 = .ok (.ireturn, 1) := by decide +kernel
theorem dJ9_min_7cf53_0 : decode cJ9_min_7cf53 0 = .ok (.iload_n 0, 1) := by decide +kernel
theorem dJ9_min_7cf53_1 : decode cJ9_min_7cf53 1 = .ok (.iload_n 1, 1) := by decide +kernel
theorem dJ9_min_7cf53_2 : decode cJ9_min_7cf53 2 = .ok (.if_icmp .gt 7, 3) := by decide +kernel
theorem dJ9_min_7cf53_5 : decode cJ9_min_7cf53 5 = .ok (.iload_n 0, 1) := by decide +kernel
theorem dJ9_min_7cf53_6 : decode cJ9_min_7cf53 6 = .ok (.goto 4, 3) := by decide +kernel
theorem dJ9_min_7cf53_9 : decode cJ9_min_7cf53 9 = .ok (.iload_n 1, 1) := by decide +kernel
theorem dJ9_min_7cf53_10 : decode cJ9_min_7cf53 10 = .ok (.ireturn, 1) := by decide +kernel
set_option maxRecDepth 20000 in
theorem ggL_law_X6_init : GoodIn wsL_law wsX6_init := goodIn_r _ [9, 10, 11, 12, 13, 14, 15, 16, 17, 18, 19, 20, 21, 22, 23, 24, 25, 26, 27, 28, 29, 30, 31, 32, 33, 34, 35, 36, 37, 38, 39, 40, 41, 42, 43, 44, 45, 46, 47, 48, 49, 50, 51, 52, 53, 54, 55, 56, 57, 58, 59, 60, 61, 62, 63, 64, 703, 704, 705, 706, 707, 708, 681, 682, 683, 684, 685, 686, 687, 709, 710, 711, 712, 713, 714, 715, 716, 717, 718, 719, 720, 721, 722, 723, 724, 725, 726, 727] (by decide +kernel) (by decide +kernel)
set_option maxRecDepth 20000 in
theorem gL_law_X6_init : GoodIn wsL_law (wsX6_init) := ggL_law_X6_init
set_option maxRecDepth 20000 in
theorem ggL_law_X7_init : GoodIn wsL_law wsX7_init := goodIn_r _ [67, 68, 11, 12, 49, 69, 70, 71, 72, 73, 55, 74, 75, 76, 77, 78, 79, 688, 689, 690, 691, 692, 693, 694, 695, 696, 697, 698, 699, 700, 701, 702] (by decide +kernel) (by decide +kernel)
set_option maxRecDepth 20000 in
theorem gL_law_X7_init : GoodIn wsL_law (wsX7_init) := ggL_law_X7_init
set_option maxRecDepth 20000 in
theorem ggL_law_X6_set : GoodIn wsL_law wsX6_set := goodIn_r _ [83, 32, 16, 84, 31, 85, 86, 87, 88, 89, 90, 91, 64, 92, 15, 93, 94, 95, 96, 97, 39, 40, 38, 98, 99, 100, 101, 102, 42, 103, 104, 105, 106, 107, 108, 109, 110, 111, 112, 113, 114, 115, 116, 117, 118, 119, 120, 121, 681, 682, 683, 684, 685, 686, 687, 719, 720, 703, 704, 705, 706, 707, 708, 721, 722, 723, 724, 725, 726, 727] (by decide +kernel) (by decide +kernel)
set_option maxRecDepth 20000 in
theorem gL_law_X6_set : GoodIn wsL_law (wsV RL 13 RX6 yX6_set wsX6_set) := goodIn_app (goodIn_of _ (by decide +kernel)) ggL_law_X6_set
set_option maxRecDepth 20000 in
theorem ggL_law_X7_set : GoodIn wsL_law wsX7_set := goodIn_r _ [125, 69, 126, 127, 5, 128, 129, 130, 131, 132, 133, 134, 135, 136, 70, 688, 689, 690, 691, 692, 693, 694, 695, 696, 697, 698, 699, 700, 701, 702] (by decide +kernel) (by decide +kernel)
set_option maxRecDepth 20000 in
theorem gL_law_X7_set : GoodIn wsL_law (wsV RL 17 RX7 yX7_set wsX7_set) := goodIn_app (goodIn_of _ (by decide +kernel)) ggL_law_X7_set
set_option maxRecDepth 20000 in
theorem ggL_law_X6_claim : GoodIn wsL_law wsX6_claim := goodIn_r _ [140, 32, 16, 84, 31, 85, 86, 87, 88, 89, 90, 91, 64, 92, 15, 93, 94, 95, 96, 97, 39, 40, 38, 98, 99, 100, 101, 102, 42, 103, 104, 105, 106, 107, 108, 109, 110, 111, 141, 142, 143, 144, 145, 146, 147, 148, 149, 150, 151, 152, 153, 154, 115, 116, 117, 118, 119, 120, 121, 681, 682, 683, 684, 685, 686, 687, 719, 720, 703, 704, 705, 706, 707, 708, 721, 722, 723, 724, 725, 726, 727] (by decide +kernel) (by decide +kernel)
set_option maxRecDepth 20000 in
theorem gL_law_X6_claim : GoodIn wsL_law (wsV RL 18 RX6 yX6_claim wsX6_claim) := goodIn_app (goodIn_of _ (by decide +kernel)) ggL_law_X6_claim
set_option maxRecDepth 20000 in
theorem ggL_law_X7_claim : GoodIn wsL_law wsX7_claim := goodIn_r _ [158, 159, 160, 161, 5, 162, 69, 126, 127, 128, 163, 164, 165, 132, 133, 134, 135, 136, 70, 166, 167, 168, 169, 170, 171, 172, 173, 688, 689, 690, 691, 692, 693, 694, 695, 696, 697, 698, 699, 700, 701, 702] (by decide +kernel) (by decide +kernel)
set_option maxRecDepth 20000 in
theorem gL_law_X7_claim : GoodIn wsL_law (wsV RL 22 RX7 yX7_claim wsX7_claim) := goodIn_app (goodIn_of _ (by decide +kernel)) ggL_law_X7_claim
set_option maxRecDepth 20000 in
theorem ggL_law_X6_answer : GoodIn wsL_law wsX6_answer := goodIn_r _ [177, 32, 16, 84, 31, 85, 86, 87, 88, 89, 90, 91, 64, 92, 15, 93, 94, 95, 96, 97, 39, 40, 38, 98, 99, 100, 101, 102, 42, 103, 104, 105, 106, 107, 108, 109, 110, 111, 178, 179, 180, 144, 145, 146, 151, 152, 153, 154, 147, 148, 149, 150, 115, 116, 117, 118, 119, 120, 121, 681, 682, 683, 684, 685, 686, 687, 719, 720, 703, 704, 705, 706, 707, 708, 721, 722, 723, 724, 725, 726, 727] (by decide +kernel) (by decide +kernel)
set_option maxRecDepth 20000 in
theorem gL_law_X6_answer : GoodIn wsL_law (wsV RL 23 RX6 yX6_answer wsX6_answer) := goodIn_app (goodIn_of _ (by decide +kernel)) ggL_law_X6_answer
set_option maxRecDepth 20000 in
theorem ggL_law_X7_answer : GoodIn wsL_law wsX7_answer := goodIn_r _ [184, 185, 186, 187, 5, 188, 69, 189, 190, 191, 192, 163, 164, 165, 126, 127, 128, 193, 194, 195, 196, 197, 198, 199, 200, 132, 133, 134, 135, 136, 70, 166, 167, 168, 169, 170, 171, 172, 173, 688, 689, 690, 691, 692, 693, 694, 695, 696, 697, 698, 699, 700, 701, 702] (by decide +kernel) (by decide +kernel)
set_option maxRecDepth 20000 in
theorem gL_law_X7_answer : GoodIn wsL_law (wsV RL 26 RX7 yX7_answer wsX7_answer) := goodIn_app (goodIn_of _ (by decide +kernel)) ggL_law_X7_answer
set_option maxRecDepth 20000 in
theorem ggL_law_X6_withdraw : GoodIn wsL_law wsX6_withdraw := goodIn_r _ [204, 32, 16, 84, 31, 85, 86, 87, 88, 89, 90, 91, 64, 92, 15, 93, 94, 95, 96, 97, 39, 40, 38, 98, 99, 100, 101, 102, 42, 103, 104, 105, 106, 107, 108, 109, 110, 111, 205, 206, 207, 208, 209, 210, 211, 212, 213, 214, 215, 216, 217, 218, 219, 220, 221, 222, 223, 224, 225, 226, 227, 228, 229, 230, 231, 232, 233, 234, 235, 236, 2, 237, 238, 239, 240, 241, 242, 243, 244, 245, 246, 247, 248, 115, 116, 117, 118, 119, 120, 121, 681, 682, 683, 684, 685, 686, 687, 719, 720, 703, 704, 705, 706, 707, 708, 721, 722, 723, 724, 725, 726, 727] (by decide +kernel) (by decide +kernel)
set_option maxRecDepth 20000 in
theorem gL_law_X6_withdraw : GoodIn wsL_law (wsV RL 27 RX6 yX6_withdraw wsX6_withdraw) := goodIn_app (goodIn_of _ (by decide +kernel)) ggL_law_X6_withdraw
set_option maxRecDepth 20000 in
theorem ggL_law_X7_withdraw : GoodIn wsL_law wsX7_withdraw := goodIn_r _ [252, 253, 254, 255, 5, 256, 189, 190, 191, 192, 69, 193, 194, 195, 196, 197, 198, 199, 200, 132, 133, 134, 135, 136, 70, 170, 171, 172, 173, 257, 258, 259, 260, 261, 262, 263, 264, 76, 75, 265, 266, 267, 268, 269, 270, 271, 272, 273, 274, 275, 276, 277, 278, 279, 280, 281, 282, 283, 284, 285, 286, 287, 688, 689, 690, 691, 692, 693, 694, 695, 696, 697, 698, 699, 700, 701, 702] (by decide +kernel) (by decide +kernel)
set_option maxRecDepth 20000 in
theorem gL_law_X7_withdraw : GoodIn wsL_law (wsV RL 31 RX7 yX7_withdraw wsX7_withdraw) := goodIn_app (goodIn_of _ (by decide +kernel)) ggL_law_X7_withdraw
set_option maxRecDepth 20000 in
theorem ggL_law_X6_renew : GoodIn wsL_law wsX6_renew := goodIn_r _ [291, 32, 16, 84, 31, 85, 86, 87, 88, 89, 90, 91, 64, 92, 15, 93, 94, 95, 96, 97, 39, 40, 38, 98, 99, 100, 101, 102, 42, 103, 104, 105, 106, 107, 108, 109, 110, 111, 292, 293, 294, 115, 116, 117, 118, 119, 120, 121, 681, 682, 683, 684, 685, 686, 687, 719, 720, 703, 704, 705, 706, 707, 708, 721, 722, 723, 724, 725, 726, 727] (by decide +kernel) (by decide +kernel)
set_option maxRecDepth 20000 in
theorem gL_law_X6_renew : GoodIn wsL_law (wsV RL 32 RX6 yX6_renew wsX6_renew) := goodIn_app (goodIn_of _ (by decide +kernel)) ggL_law_X6_renew
set_option maxRecDepth 20000 in
theorem ggL_law_X7_renew : GoodIn wsL_law wsX7_renew := goodIn_r _ [298, 69, 299, 300, 301, 5, 302, 189, 190, 191, 192, 269, 270, 271, 272, 197, 198, 199, 200, 193, 194, 195, 196, 132, 133, 134, 135, 136, 70, 170, 171, 172, 173, 688, 689, 690, 691, 692, 693, 694, 695, 696, 697, 698, 699, 700, 701, 702] (by decide +kernel) (by decide +kernel)
set_option maxRecDepth 20000 in
theorem gL_law_X7_renew : GoodIn wsL_law (wsV RL 35 RX7 yX7_renew wsX7_renew) := goodIn_app (goodIn_of _ (by decide +kernel)) ggL_law_X7_renew
set_option maxRecDepth 20000 in
theorem ggL_law_X6_overrule : GoodIn wsL_law wsX6_overrule := goodIn_r _ [306, 32, 16, 84, 31, 85, 86, 87, 88, 89, 90, 91, 64, 92, 15, 93, 94, 95, 96, 97, 39, 40, 38, 98, 99, 100, 101, 102, 42, 103, 104, 105, 106, 107, 108, 109, 110, 111, 307, 308, 309, 236, 2, 237, 115, 116, 117, 118, 119, 120, 121, 681, 682, 683, 684, 685, 686, 687, 719, 720, 703, 704, 705, 706, 707, 708, 721, 722, 723, 724, 725, 726, 727] (by decide +kernel) (by decide +kernel)
set_option maxRecDepth 20000 in
theorem gL_law_X6_overrule : GoodIn wsL_law (wsV RL 36 RX6 yX6_overrule wsX6_overrule) := goodIn_app (goodIn_of _ (by decide +kernel)) ggL_law_X6_overrule
set_option maxRecDepth 20000 in
theorem ggL_law_X7_overrule : GoodIn wsL_law wsX7_overrule := goodIn_r _ [313, 126, 127, 5, 128, 132, 133, 134, 135, 136, 70, 69, 314, 315, 316, 317, 688, 689, 690, 691, 692, 693, 694, 695, 696, 697, 698, 699, 700, 701, 702] (by decide +kernel) (by decide +kernel)
set_option maxRecDepth 20000 in
theorem gL_law_X7_overrule : GoodIn wsL_law (wsV RL 39 RX7 yX7_overrule wsX7_overrule) := goodIn_app (goodIn_of _ (by decide +kernel)) ggL_law_X7_overrule
set_option maxRecDepth 20000 in
theorem ggL_law_X6_pass : GoodIn wsL_law wsX6_pass := goodIn_r _ [321, 32, 16, 84, 31, 85, 86, 87, 88, 89, 90, 91, 64, 92, 15, 93, 94, 95, 96, 97, 39, 40, 38, 98, 99, 100, 101, 102, 42, 103, 104, 105, 106, 107, 108, 109, 110, 111, 322, 323, 324, 208, 209, 210, 211, 212, 213, 214, 215, 216, 217, 218, 219, 220, 221, 222, 223, 224, 225, 226, 227, 228, 229, 230, 231, 232, 233, 234, 235, 236, 2, 237, 238, 239, 240, 241, 242, 243, 244, 245, 246, 247, 248, 115, 116, 117, 118, 119, 120, 121, 681, 682, 683, 684, 685, 686, 687, 719, 720, 703, 704, 705, 706, 707, 708, 721, 722, 723, 724, 725, 726, 727] (by decide +kernel) (by decide +kernel)
set_option maxRecDepth 20000 in
theorem gL_law_X6_pass : GoodIn wsL_law (wsV RL 40 RX6 yX6_pass wsX6_pass) := goodIn_app (goodIn_of _ (by decide +kernel)) ggL_law_X6_pass
set_option maxRecDepth 20000 in
theorem ggL_law_X7_pass : GoodIn wsL_law wsX7_pass := goodIn_r _ [328, 69, 329, 330, 331, 5, 332, 126, 127, 128, 132, 133, 134, 135, 136, 70, 257, 258, 259, 260, 261, 262, 263, 264, 76, 75, 197, 198, 199, 200, 193, 194, 195, 196, 265, 266, 267, 268, 269, 270, 271, 272, 273, 274, 275, 276, 277, 278, 279, 280, 281, 282, 283, 284, 285, 286, 287, 688, 689, 690, 691, 692, 693, 694, 695, 696, 697, 698, 699, 700, 701, 702] (by decide +kernel) (by decide +kernel)
set_option maxRecDepth 20000 in
theorem gL_law_X7_pass : GoodIn wsL_law (wsV RL 43 RX7 yX7_pass wsX7_pass) := goodIn_app (goodIn_of _ (by decide +kernel)) ggL_law_X7_pass
set_option maxRecDepth 20000 in
theorem ggL_law_X6_of : GoodIn wsL_law wsX6_of := goodIn_r _ [336, 16, 99, 15, 100, 101, 95, 38, 209, 210, 211, 212, 213, 214, 215, 96, 216, 217, 218, 219, 98, 220, 221, 222, 223, 40, 224, 225, 226, 227, 39, 228, 229, 230, 231, 97, 232, 233, 234, 235, 236, 2, 237, 238, 239, 240, 241, 337, 338, 339, 340, 208, 341, 342, 343, 344, 345, 346, 347, 348, 349, 350, 351, 352, 681, 682, 683, 684, 685, 686, 687, 721, 722, 723, 724, 725, 726, 727, 703, 704, 705, 706, 707, 708] (by decide +kernel) (by decide +kernel)
set_option maxRecDepth 20000 in
theorem gL_law_X6_of : GoodIn wsL_law (wsV RL 44 RX6 yX6_of wsX6_of) := goodIn_app (goodIn_of _ (by decide +kernel)) ggL_law_X6_of
set_option maxRecDepth 20000 in
theorem ggL_law_X7_of : GoodIn wsL_law wsX7_of := goodIn_r _ [356, 75, 189, 190, 191, 5, 192, 69, 257, 258, 259, 260, 261, 262, 263, 264, 76, 197, 198, 199, 200, 193, 194, 195, 196, 265, 266, 267, 268, 269, 270, 271, 272, 273, 274, 275, 276, 277, 278, 279, 280, 357, 358, 359, 360, 361, 362, 363, 364, 365, 366, 367, 368, 369, 370, 371, 372, 688, 689, 690, 691, 692, 693, 694, 695, 696, 697, 698, 699, 700, 701, 702] (by decide +kernel) (by decide +kernel)
set_option maxRecDepth 20000 in
theorem gL_law_X7_of : GoodIn wsL_law (wsV RL 47 RX7 yX7_of wsX7_of) := goodIn_app (goodIn_of _ (by decide +kernel)) ggL_law_X7_of
set_option maxRecDepth 20000 in
theorem ggL_law_X6_count : GoodIn wsL_law wsX6_count := goodIn_r _ [376, 16, 24, 32, 377, 15, 378, 379, 380, 341, 342, 343, 95, 98, 99, 100, 101, 38, 381, 243, 244, 245, 246, 247, 248, 209, 210, 211, 212, 213, 214, 215, 96, 216, 217, 218, 219, 220, 221, 222, 223, 40, 224, 225, 226, 227, 39, 228, 229, 230, 231, 97, 232, 233, 234, 235, 236, 2, 237, 238, 239, 240, 241, 382, 383, 384, 385, 386, 387, 388, 208, 389, 390, 391, 681, 682, 683, 684, 685, 686, 687, 703, 704, 705, 706, 707, 708, 711, 712, 719, 720, 721, 722, 723, 724, 725, 726, 727] (by decide +kernel) (by decide +kernel)
set_option maxRecDepth 20000 in
theorem gL_law_X6_count : GoodIn wsL_law (wsV RL 48 RX6 yX6_count wsX6_count) := goodIn_app (goodIn_of _ (by decide +kernel)) ggL_law_X6_count
set_option maxRecDepth 20000 in
theorem ggL_law_X7_count : GoodIn wsL_law wsX7_count := goodIn_r _ [395, 69, 76, 396, 136, 257, 258, 259, 5, 260, 261, 262, 263, 264, 75, 197, 198, 199, 200, 193, 194, 195, 196, 265, 266, 267, 268, 269, 270, 271, 272, 273, 274, 275, 276, 277, 278, 279, 280, 397, 398, 399, 400, 285, 286, 287, 281, 282, 283, 284, 401, 402, 403, 404, 126, 127, 128, 405, 406, 407, 408, 688, 689, 690, 691, 692, 693, 694, 695, 696, 697, 698, 699, 700, 701, 702] (by decide +kernel) (by decide +kernel)
set_option maxRecDepth 20000 in
theorem gL_law_X7_count : GoodIn wsL_law (wsV RL 51 RX7 yX7_count wsX7_count) := goodIn_app (goodIn_of _ (by decide +kernel)) ggL_law_X7_count
set_option maxRecDepth 20000 in
theorem ggL_law_X6_points : GoodIn wsL_law wsX6_points := goodIn_r _ [412, 16, 209, 15, 210, 211, 212, 213, 214, 215, 96, 216, 217, 218, 219, 95, 98, 99, 100, 101, 38, 220, 221, 222, 223, 40, 224, 225, 226, 227, 39, 228, 229, 230, 231, 97, 232, 233, 234, 235, 236, 2, 237, 238, 239, 240, 241, 377, 378, 379, 380, 341, 342, 343, 382, 383, 384, 385, 386, 387, 388, 208, 413, 414, 415, 681, 682, 683, 684, 685, 686, 687, 703, 704, 705, 706, 707, 708, 721, 722, 723, 724, 725, 726, 727] (by decide +kernel) (by decide +kernel)
set_option maxRecDepth 20000 in
theorem gL_law_X6_points : GoodIn wsL_law (wsV RL 52 RX6 yX6_points wsX6_points) := goodIn_app (goodIn_of _ (by decide +kernel)) ggL_law_X6_points
set_option maxRecDepth 20000 in
theorem ggL_law_X7_points : GoodIn wsL_law wsX7_points := goodIn_r _ [419, 257, 258, 259, 5, 260, 261, 262, 263, 264, 76, 69, 75, 197, 198, 199, 200, 193, 194, 195, 196, 265, 266, 267, 268, 269, 270, 271, 272, 273, 274, 275, 276, 277, 278, 279, 280, 281, 282, 283, 284, 397, 398, 399, 400, 401, 402, 403, 404, 126, 127, 128, 405, 406, 407, 408, 420, 421, 422, 423, 688, 689, 690, 691, 692, 693, 694, 695, 696, 697, 698, 699, 700, 701, 702] (by decide +kernel) (by decide +kernel)
set_option maxRecDepth 20000 in
theorem gL_law_X7_points : GoodIn wsL_law (wsV RL 55 RX7 yX7_points wsX7_points) := goodIn_app (goodIn_of _ (by decide +kernel)) ggL_law_X7_points
set_option maxRecDepth 20000 in
theorem ggL_law_X6_share : GoodIn wsL_law wsX6_share := goodIn_r _ [427, 16, 377, 15, 378, 379, 380, 341, 342, 343, 95, 98, 99, 100, 101, 38, 413, 414, 415, 209, 210, 211, 212, 213, 214, 215, 96, 216, 217, 218, 219, 220, 221, 222, 223, 40, 224, 225, 226, 227, 39, 228, 229, 230, 231, 97, 232, 233, 234, 235, 236, 2, 237, 238, 239, 240, 241, 381, 243, 244, 245, 246, 247, 248, 428, 429, 430, 431, 432, 681, 682, 683, 684, 685, 686, 687, 703, 704, 705, 706, 707, 708, 721, 722, 723, 724, 725, 726, 727] (by decide +kernel) (by decide +kernel)
set_option maxRecDepth 20000 in
theorem gL_law_X6_share : GoodIn wsL_law (wsV RL 56 RX6 yX6_share wsX6_share) := goodIn_app (goodIn_of _ (by decide +kernel)) ggL_law_X6_share
set_option maxRecDepth 20000 in
theorem ggL_law_X7_share : GoodIn wsL_law wsX7_share := goodIn_r _ [436, 126, 127, 5, 128, 257, 258, 259, 260, 261, 262, 263, 264, 76, 69, 75, 197, 198, 199, 200, 193, 194, 195, 196, 265, 266, 267, 268, 269, 270, 271, 272, 273, 274, 275, 276, 277, 278, 279, 280, 397, 398, 399, 400, 420, 421, 422, 423, 285, 286, 287, 281, 282, 283, 284, 437, 438, 439, 440, 441, 688, 689, 690, 691, 692, 693, 694, 695, 696, 697, 698, 699, 700, 701, 702] (by decide +kernel) (by decide +kernel)
set_option maxRecDepth 20000 in
theorem gL_law_X7_share : GoodIn wsL_law (wsV RL 59 RX7 yX7_share wsX7_share) := goodIn_app (goodIn_of _ (by decide +kernel)) ggL_law_X7_share
set_option maxRecDepth 20000 in
theorem ggL_law_X6_toFall : GoodIn wsL_law wsX6_toFall := goodIn_r _ [445, 16, 20, 99, 15, 100, 101, 95, 38, 446, 19, 447, 448, 50, 51, 213, 214, 215, 96, 216, 217, 218, 219, 98, 220, 221, 222, 223, 40, 224, 225, 226, 227, 39, 228, 229, 230, 231, 97, 449, 450, 451, 385, 386, 387, 388, 238, 239, 240, 241, 236, 2, 237, 452, 453, 454, 455, 456, 457, 458, 459, 460, 461, 462, 463, 464, 465, 681, 682, 683, 684, 685, 686, 687, 703, 704, 705, 706, 707, 708, 709, 710, 721, 722, 723, 724, 725, 726, 727] (by decide +kernel) (by decide +kernel)
set_option maxRecDepth 20000 in
theorem gL_law_X6_toFall : GoodIn wsL_law (wsV RL 60 RX6 yX6_toFall wsX6_toFall) := goodIn_app (goodIn_of _ (by decide +kernel)) ggL_law_X6_toFall
set_option maxRecDepth 20000 in
theorem ggL_law_X7_toFall : GoodIn wsL_law wsX7_toFall := goodIn_r _ [469, 78, 189, 190, 191, 5, 192, 69, 470, 471, 472, 473, 75, 77, 257, 258, 259, 260, 261, 262, 263, 264, 76, 197, 198, 199, 200, 193, 194, 195, 196, 265, 266, 267, 268, 269, 270, 271, 272, 273, 274, 275, 276, 277, 278, 279, 280, 126, 127, 128, 361, 362, 363, 364, 688, 689, 690, 691, 692, 693, 694, 695, 696, 697, 698, 699, 700, 701, 702] (by decide +kernel) (by decide +kernel)
set_option maxRecDepth 20000 in
theorem gL_law_X7_toFall : GoodIn wsL_law (wsV RL 63 RX7 yX7_toFall wsX7_toFall) := goodIn_app (goodIn_of _ (by decide +kernel)) ggL_law_X7_toFall
set_option maxRecDepth 20000 in
theorem ggL_law_X6_toStand : GoodIn wsL_law wsX6_toStand := goodIn_r _ [477, 16, 20, 99, 15, 100, 101, 95, 38, 213, 214, 215, 96, 216, 217, 218, 219, 98, 220, 221, 222, 223, 40, 224, 225, 226, 227, 39, 228, 229, 230, 231, 97, 337, 236, 2, 237, 446, 19, 447, 448, 50, 51, 449, 450, 451, 385, 386, 387, 388, 238, 239, 240, 241, 452, 453, 454, 455, 456, 457, 458, 459, 478, 479, 480, 463, 464, 465, 681, 682, 683, 684, 685, 686, 687, 703, 704, 705, 706, 707, 708, 721, 722, 723, 724, 725, 726, 727, 709, 710] (by decide +kernel) (by decide +kernel)
set_option maxRecDepth 20000 in
theorem gL_law_X6_toStand : GoodIn wsL_law (wsV RL 64 RX6 yX6_toStand wsX6_toStand) := goodIn_app (goodIn_of _ (by decide +kernel)) ggL_law_X6_toStand
set_option maxRecDepth 20000 in
theorem ggL_law_X7_toStand : GoodIn wsL_law wsX7_toStand := goodIn_r _ [484, 75, 77, 189, 190, 191, 5, 192, 69, 470, 471, 472, 473, 78, 257, 258, 259, 260, 261, 262, 263, 264, 76, 197, 198, 199, 200, 193, 194, 195, 196, 265, 266, 267, 268, 269, 270, 271, 272, 273, 274, 275, 276, 277, 278, 279, 280, 126, 127, 128, 361, 362, 363, 364, 688, 689, 690, 691, 692, 693, 694, 695, 696, 697, 698, 699, 700, 701, 702] (by decide +kernel) (by decide +kernel)
set_option maxRecDepth 20000 in
theorem gL_law_X7_toStand : GoodIn wsL_law (wsV RL 67 RX7 yX7_toStand wsX7_toStand) := goodIn_app (goodIn_of _ (by decide +kernel)) ggL_law_X7_toStand
set_option maxRecDepth 20000 in
theorem ggL_law_X6_bestAnswer : GoodIn wsL_law wsX6_bestAnswer := goodIn_r _ [488, 16, 213, 15, 214, 215, 96, 216, 217, 218, 219, 95, 98, 99, 100, 101, 38, 220, 221, 222, 223, 40, 224, 225, 226, 227, 39, 228, 229, 230, 231, 97, 233, 234, 235, 236, 2, 237, 238, 239, 240, 241, 449, 450, 451, 385, 386, 387, 388, 337, 377, 378, 379, 380, 341, 342, 343, 381, 243, 244, 245, 246, 247, 248, 681, 682, 683, 684, 685, 686, 687, 703, 704, 705, 706, 707, 708, 721, 722, 723, 724, 725, 726, 727] (by decide +kernel) (by decide +kernel)
set_option maxRecDepth 20000 in
theorem gL_law_X6_bestAnswer : GoodIn wsL_law (wsV RL 68 RX6 yX6_bestAnswer wsX6_bestAnswer) := goodIn_app (goodIn_of _ (by decide +kernel)) ggL_law_X6_bestAnswer
set_option maxRecDepth 20000 in
theorem ggL_law_X7_bestAnswer : GoodIn wsL_law wsX7_bestAnswer := goodIn_r _ [492, 69, 75, 126, 127, 5, 128, 257, 258, 259, 260, 261, 262, 263, 264, 76, 197, 198, 199, 200, 193, 194, 195, 196, 265, 266, 267, 268, 269, 270, 271, 272, 273, 274, 275, 276, 277, 278, 279, 280, 361, 362, 363, 364, 493, 494, 495, 496, 281, 282, 283, 284, 397, 398, 399, 400, 285, 286, 287, 688, 689, 690, 691, 692, 693, 694, 695, 696, 697, 698, 699, 700, 701, 702] (by decide +kernel) (by decide +kernel)
set_option maxRecDepth 20000 in
theorem gL_law_X7_bestAnswer : GoodIn wsL_law (wsV RL 71 RX7 yX7_bestAnswer wsX7_bestAnswer) := goodIn_app (goodIn_of _ (by decide +kernel)) ggL_law_X7_bestAnswer
set_option maxRecDepth 20000 in
theorem ggL_law_X6_changesIn : GoodIn wsL_law wsX6_changesIn := goodIn_r _ [500, 16, 217, 15, 218, 219, 95, 98, 99, 100, 101, 38, 221, 222, 223, 40, 229, 230, 231, 97, 209, 210, 211, 212, 213, 214, 215, 96, 216, 220, 224, 225, 226, 227, 39, 228, 232, 233, 234, 235, 236, 2, 237, 238, 239, 240, 241, 681, 682, 683, 684, 685, 686, 687, 703, 704, 705, 706, 707, 708, 721, 722, 723, 724, 725, 726, 727] (by decide +kernel) (by decide +kernel)
set_option maxRecDepth 20000 in
theorem gL_law_X6_changesIn : GoodIn wsL_law (wsV RL 72 RX6 yX6_changesIn wsX6_changesIn) := goodIn_app (goodIn_of _ (by decide +kernel)) ggL_law_X6_changesIn
set_option maxRecDepth 20000 in
theorem ggL_law_X7_changesIn : GoodIn wsL_law wsX7_changesIn := goodIn_r _ [504, 69, 257, 258, 259, 5, 260, 261, 262, 263, 264, 76, 75, 197, 198, 199, 200, 193, 194, 195, 196, 265, 266, 267, 268, 269, 270, 271, 272, 273, 274, 275, 276, 277, 278, 279, 280, 281, 282, 283, 284, 688, 689, 690, 691, 692, 693, 694, 695, 696, 697, 698, 699, 700, 701, 702] (by decide +kernel) (by decide +kernel)
set_option maxRecDepth 20000 in
theorem gL_law_X7_changesIn : GoodIn wsL_law (wsV RL 76 RX7 yX7_changesIn wsX7_changesIn) := goodIn_app (goodIn_of _ (by decide +kernel)) ggL_law_X7_changesIn
set_option maxRecDepth 20000 in
theorem ggL_law_X6_leastPages : GoodIn wsL_law wsX6_leastPages := goodIn_r _ [508, 16, 509, 510, 458, 511, 217, 15, 218, 219, 95, 98, 99, 100, 101, 38, 389, 390, 391, 236, 2, 237, 681, 682, 683, 684, 685, 686, 687, 703, 704, 705, 706, 707, 708, 721, 722, 723, 724, 725, 726, 727] (by decide +kernel) (by decide +kernel)
set_option maxRecDepth 20000 in
theorem gL_law_X6_leastPages : GoodIn wsL_law (wsV RL 77 RX6 yX6_leastPages wsX6_leastPages) := goodIn_app (goodIn_of _ (by decide +kernel)) ggL_law_X6_leastPages
set_option maxRecDepth 20000 in
theorem ggL_law_X7_leastPages : GoodIn wsL_law wsX7_leastPages := goodIn_r _ [515, 69, 197, 198, 199, 5, 200, 193, 194, 195, 196, 688, 689, 690, 691, 692, 693, 694, 695, 696, 697, 698, 699, 700, 701, 702] (by decide +kernel) (by decide +kernel)
set_option maxRecDepth 20000 in
theorem gL_law_X7_leastPages : GoodIn wsL_law (wsV RL 80 RX7 yX7_leastPages wsX7_leastPages) := goodIn_app (goodIn_of _ (by decide +kernel)) ggL_law_X7_leastPages
set_option maxRecDepth 20000 in
theorem ggL_law_X6_put : GoodIn wsL_law wsX6_put := goodIn_r _ [519, 24, 520, 23, 521, 522, 523, 524, 525, 526, 527, 528, 529, 56, 681, 682, 683, 684, 685, 686, 687, 711, 712] (by decide +kernel) (by decide +kernel)
set_option maxRecDepth 20000 in
theorem gL_law_X6_put : GoodIn wsL_law (wsV RL 83 RX6 yX6_put wsX6_put) := goodIn_app (goodIn_of _ (by decide +kernel)) ggL_law_X6_put
set_option maxRecDepth 20000 in
theorem ggL_law_X7_put : GoodIn wsL_law wsX7_put := goodIn_r _ [533, 534, 396, 74, 126, 127, 5, 128, 688, 689, 690, 691, 692, 693, 694, 695, 696, 697, 698, 699, 700, 701, 702] (by decide +kernel) (by decide +kernel)
set_option maxRecDepth 20000 in
theorem gL_law_X7_put : GoodIn wsL_law (wsV RL 87 RX7 yX7_put wsX7_put) := goodIn_app (goodIn_of _ (by decide +kernel)) ggL_law_X7_put
set_option maxRecDepth 20000 in
theorem ggL_law_X6_wipe : GoodIn wsL_law wsX6_wipe := goodIn_r _ [538, 24, 539, 23, 540, 541, 529, 681, 682, 683, 684, 685, 686, 687, 711, 712] (by decide +kernel) (by decide +kernel)
set_option maxRecDepth 20000 in
theorem gL_law_X6_wipe : GoodIn wsL_law (wsV RL 88 RX6 yX6_wipe wsX6_wipe) := goodIn_app (goodIn_of _ (by decide +kernel)) ggL_law_X6_wipe
set_option maxRecDepth 20000 in
theorem ggL_law_X7_wipe : GoodIn wsL_law wsX7_wipe := goodIn_r _ [545, 396, 688, 689, 690, 691, 692, 693, 694, 695, 696, 697, 698, 699, 700, 701, 702] (by decide +kernel) (by decide +kernel)
set_option maxRecDepth 20000 in
theorem gL_law_X7_wipe : GoodIn wsL_law (wsV RL 91 RX7 yX7_wipe wsX7_wipe) := goodIn_app (goodIn_of _ (by decide +kernel)) ggL_law_X7_wipe
set_option maxRecDepth 20000 in
theorem ggL_law_X6_fault : GoodIn wsL_law wsX6_fault := goodIn_r _ [549, 28, 24, 550, 27, 551, 552, 553, 554, 555, 556, 557, 558, 559, 560, 561, 562, 563, 23, 564, 565, 529, 56, 566, 567, 568, 569, 570, 571, 572, 573, 574, 575, 576, 577, 578, 579, 580, 581, 582, 583, 584, 585, 586, 587, 588, 589, 590, 591, 592, 593, 681, 682, 683, 684, 685, 686, 687, 713, 714, 715, 716, 717, 718, 711, 712] (by decide +kernel) (by decide +kernel)
set_option maxRecDepth 20000 in
theorem gL_law_X6_fault : GoodIn wsL_law (wsV RL 92 RX6 yX6_fault wsX6_fault) := goodIn_app (goodIn_of _ (by decide +kernel)) ggL_law_X6_fault
set_option maxRecDepth 20000 in
theorem ggL_law_X7_fault : GoodIn wsL_law wsX7_fault := goodIn_r _ [597, 598, 599, 600, 5, 601, 602, 603, 604, 396, 605, 606, 607, 608, 79, 609, 610, 611, 612, 74, 613, 614, 615, 616, 617, 618, 619, 620, 126, 127, 128, 621, 622, 623, 624, 625, 626, 627, 628, 688, 689, 690, 691, 692, 693, 694, 695, 696, 697, 698, 699, 700, 701, 702] (by decide +kernel) (by decide +kernel)
set_option maxRecDepth 20000 in
theorem gL_law_X7_fault : GoodIn wsL_law (wsV RL 95 RX7 yX7_fault wsX7_fault) := goodIn_app (goodIn_of _ (by decide +kernel)) ggL_law_X7_fault
set_option maxRecDepth 20000 in
theorem ggL_law_X6_carryOut : GoodIn wsL_law wsX6_carryOut := goodIn_r _ [632, 28, 24, 32, 16, 550, 27, 551, 552, 553, 554, 555, 556, 557, 558, 559, 560, 561, 562, 563, 23, 564, 565, 529, 56, 566, 567, 568, 569, 570, 571, 572, 573, 574, 575, 576, 577, 578, 579, 580, 581, 582, 583, 584, 585, 586, 587, 588, 589, 590, 591, 592, 593, 84, 31, 85, 86, 87, 88, 89, 90, 91, 64, 92, 15, 93, 94, 95, 96, 97, 39, 40, 38, 98, 99, 100, 101, 102, 42, 103, 104, 105, 106, 107, 108, 109, 110, 111, 633, 634, 635, 2, 636, 141, 142, 143, 144, 145, 146, 147, 148, 149, 150, 151, 152, 153, 154, 178, 179, 180, 205, 206, 207, 208, 209, 210, 211, 212, 213, 214, 215, 216, 217, 218, 219, 220, 221, 222, 223, 224, 225, 226, 227, 228, 229, 230, 231, 232, 233, 234, 235, 236, 237, 238, 239, 240, 241, 242, 243, 244, 245, 246, 247, 248, 292, 293, 294, 307, 308, 309, 322, 323, 324, 539, 540, 541, 115, 116, 117, 118, 119, 120, 121, 681, 682, 683, 684, 685, 686, 687, 713, 714, 715, 716, 717, 718, 711, 712, 719, 720, 703, 704, 705, 706, 707, 708, 721, 722, 723, 724, 725, 726, 727] (by decide +kernel) (by decide +kernel)
set_option maxRecDepth 20000 in
theorem gL_law_X6_carryOut : GoodIn wsL_law (wsV RL 96 RX6 yX6_carryOut wsX6_carryOut) := goodIn_app (goodIn_of _ (by decide +kernel)) ggL_law_X6_carryOut
set_option maxRecDepth 20000 in
theorem ggL_law_X7_carryOut : GoodIn wsL_law wsX7_carryOut := goodIn_r _ [640, 602, 396, 598, 599, 600, 5, 601, 603, 604, 605, 606, 607, 608, 79, 609, 610, 611, 612, 74, 613, 614, 615, 616, 617, 618, 619, 620, 126, 127, 128, 621, 622, 623, 624, 625, 626, 627, 628, 132, 133, 134, 135, 136, 70, 69, 641, 642, 643, 644, 645, 646, 647, 648, 159, 160, 161, 162, 163, 164, 165, 185, 186, 187, 188, 189, 190, 191, 192, 193, 194, 195, 196, 197, 198, 199, 200, 253, 254, 255, 256, 299, 300, 301, 302, 269, 270, 271, 272, 329, 330, 331, 332, 166, 167, 168, 169, 170, 171, 172, 173, 314, 315, 316, 317, 688, 689, 690, 691, 692, 693, 694, 695, 696, 697, 698, 699, 700, 701, 702] (by decide +kernel) (by decide +kernel)
set_option maxRecDepth 20000 in
theorem gL_law_X7_carryOut : GoodIn wsL_law (wsV RL 99 RX7 yX7_carryOut wsX7_carryOut) := goodIn_app (goodIn_of _ (by decide +kernel)) ggL_law_X7_carryOut
set_option maxRecDepth 20000 in
theorem ggL_law_X6_undo : GoodIn wsL_law wsX6_undo := goodIn_r _ [652, 32, 16, 653, 31, 654, 655, 87, 88, 89, 90, 91, 64, 92, 15, 93, 94, 95, 96, 97, 39, 40, 38, 98, 99, 100, 101, 102, 42, 103, 104, 105, 106, 107, 108, 109, 110, 111, 681, 682, 683, 684, 685, 686, 687, 719, 720, 703, 704, 705, 706, 707, 708, 721, 722, 723, 724, 725, 726, 727] (by decide +kernel) (by decide +kernel)
set_option maxRecDepth 20000 in
theorem gL_law_X6_undo : GoodIn wsL_law (wsV RL 100 RX6 yX6_undo wsX6_undo) := goodIn_app (goodIn_of _ (by decide +kernel)) ggL_law_X6_undo
set_option maxRecDepth 20000 in
theorem ggL_law_X7_undo : GoodIn wsL_law wsX7_undo := goodIn_r _ [659, 136, 69, 70, 688, 689, 690, 691, 692, 693, 694, 695, 696, 697, 698, 699, 700, 701, 702] (by decide +kernel) (by decide +kernel)
set_option maxRecDepth 20000 in
theorem gL_law_X7_undo : GoodIn wsL_law (wsV RL 103 RX7 yX7_undo wsX7_undo) := goodIn_app (goodIn_of _ (by decide +kernel)) ggL_law_X7_undo
set_option maxRecDepth 20000 in
theorem ggL_law_X6_save : GoodIn wsL_law wsX6_save := goodIn_r _ [663, 16, 664, 665, 666, 667, 2, 668, 33, 92, 15, 93, 94, 95, 96, 97, 39, 40, 38, 98, 99, 100, 101, 102, 42, 103, 104, 105, 106, 107, 108, 109, 110, 111, 681, 682, 683, 684, 685, 686, 687, 703, 704, 705, 706, 707, 708, 721, 722, 723, 724, 725, 726, 727] (by decide +kernel) (by decide +kernel)
set_option maxRecDepth 20000 in
theorem gL_law_X6_save : GoodIn wsL_law (wsV RL 104 RX6 yX6_save wsX6_save) := goodIn_app (goodIn_of _ (by decide +kernel)) ggL_law_X6_save
set_option maxRecDepth 20000 in
theorem ggL_law_X7_save : GoodIn wsL_law wsX7_save := goodIn_r _ [672, 73, 71, 69, 126, 127, 5, 128, 688, 689, 690, 691, 692, 693, 694, 695, 696, 697, 698, 699, 700, 701, 702] (by decide +kernel) (by decide +kernel)
set_option maxRecDepth 20000 in
theorem gL_law_X7_save : GoodIn wsL_law (wsV RL 107 RX7 yX7_save wsX7_save) := goodIn_app (goodIn_of _ (by decide +kernel)) ggL_law_X7_save
set_option maxRecDepth 20000 in
theorem ggL_law_X6_restore : GoodIn wsL_law wsX6_restore := goodIn_r _ [676, 664, 32, 16, 665, 666, 667, 2, 668, 33, 337, 236, 237, 84, 31, 85, 86, 87, 88, 89, 90, 91, 64, 92, 15, 93, 94, 95, 96, 97, 39, 40, 38, 98, 99, 100, 101, 102, 42, 103, 104, 105, 106, 107, 108, 109, 110, 111, 115, 116, 117, 118, 119, 120, 121, 681, 682, 683, 684, 685, 686, 687, 703, 704, 705, 706, 707, 708, 719, 720, 721, 722, 723, 724, 725, 726, 727] (by decide +kernel) (by decide +kernel)
set_option maxRecDepth 20000 in
theorem gL_law_X6_restore : GoodIn wsL_law (wsV RL 108 RX6 yX6_restore wsX6_restore) := goodIn_app (goodIn_of _ (by decide +kernel)) ggL_law_X6_restore
set_option maxRecDepth 20000 in
theorem ggL_law_X7_restore : GoodIn wsL_law wsX7_restore := goodIn_r _ [680, 73, 69, 71, 126, 127, 5, 128, 132, 133, 134, 135, 136, 70, 688, 689, 690, 691, 692, 693, 694, 695, 696, 697, 698, 699, 700, 701, 702] (by decide +kernel) (by decide +kernel)
set_option maxRecDepth 20000 in
theorem gL_law_X7_restore : GoodIn wsL_law (wsV RL 111 RX7 yX7_restore wsX7_restore) := goodIn_app (goodIn_of _ (by decide +kernel)) ggL_law_X7_restore
theorem dL_law_0 : decode cL_law 0 = .ok (.new 7, 3) := by decide +kernel
theorem dL_law_3 : decode cL_law 3 = .ok (.dup, 1) := by decide +kernel
theorem dL_law_4 : decode cL_law 4 = .ok (.invokespecial 9, 3) := by decide +kernel
theorem dL_law_7 : decode cL_law 7 = .ok (.astore_n 1, 1) := by decide +kernel
theorem dL_law_8 : decode cL_law 8 = .ok (.new 10, 3) := by decide +kernel
theorem dL_law_11 : decode cL_law 11 = .ok (.dup, 1) := by decide +kernel
theorem dL_law_12 : decode cL_law 12 = .ok (.invokespecial 12, 3) := by decide +kernel
theorem dL_law_15 : decode cL_law 15 = .ok (.astore_n 2, 1) := by decide +kernel
theorem dL_law_16 : decode cL_law 16 = .ok (.iconst 0, 1) := by decide +kernel
theorem dL_law_17 : decode cL_law 17 = .ok (.istore_n 3, 1) := by decide +kernel
theorem dL_law_18 : decode cL_law 18 = .ok (.iload_n 3, 1) := by decide +kernel
theorem dL_law_19 : decode cL_law 19 = .ok (.aload_n 0, 1) := by decide +kernel
theorem dL_law_20 : decode cL_law 20 = .ok (.arraylength, 1) := by decide +kernel
theorem dL_law_21 : decode cL_law 21 = .ok (.iconst 4, 1) := by decide +kernel
theorem dL_law_22 : decode cL_law 22 = .ok (.isub, 1) := by decide +kernel
theorem dL_law_23 : decode cL_law 23 = .ok (.if_icmp .gt 682, 3) := by decide +kernel
theorem dL_law_26 : decode cL_law 26 = .ok (.aload_n 0, 1) := by decide +kernel
theorem dL_law_27 : decode cL_law 27 = .ok (.iload_n 3, 1) := by decide +kernel
theorem dL_law_28 : decode cL_law 28 = .ok (.iaload, 1) := by decide +kernel
theorem dL_law_29 : decode cL_law 29 = .ok (.bipush 31, 2) := by decide +kernel
theorem dL_law_31 : decode cL_law 31 = .ok (.iand, 1) := by decide +kernel
theorem dL_law_32 : decode cL_law 32 = .ok (.tableswitch 667 0 22 #[108, 141, 184, 227, 250, 273, 296, 319, 352, 375, 398, 421, 444, 467, 490, 503, 516, 569, 582, 595, 608, 621, 644], 108) := by decide +kernel
theorem dL_law_140 : decode cL_law 140 = .ok (.aload_n 1, 1) := by decide +kernel
theorem dL_law_141 : decode cL_law 141 = .ok (.aload_n 0, 1) := by decide +kernel
theorem dL_law_142 : decode cL_law 142 = .ok (.iload_n 3, 1) := by decide +kernel
theorem dL_law_143 : decode cL_law 143 = .ok (.iconst 1, 1) := by decide +kernel
theorem dL_law_144 : decode cL_law 144 = .ok (.iadd, 1) := by decide +kernel
theorem dL_law_145 : decode cL_law 145 = .ok (.iaload, 1) := by decide +kernel
theorem dL_law_146 : decode cL_law 146 = .ok (.aload_n 0, 1) := by decide +kernel
theorem dL_law_147 : decode cL_law 147 = .ok (.iload_n 3, 1) := by decide +kernel
theorem dL_law_148 : decode cL_law 148 = .ok (.iconst 2, 1) := by decide +kernel
theorem dL_law_149 : decode cL_law 149 = .ok (.iadd, 1) := by decide +kernel
theorem dL_law_150 : decode cL_law 150 = .ok (.iaload, 1) := by decide +kernel
theorem dL_law_151 : decode cL_law 151 = .ok (.invokevirtual 13, 3) := by decide +kernel
theorem dL_law_154 : decode cL_law 154 = .ok (.aload_n 2, 1) := by decide +kernel
theorem dL_law_155 : decode cL_law 155 = .ok (.aload_n 0, 1) := by decide +kernel
theorem dL_law_156 : decode cL_law 156 = .ok (.iload_n 3, 1) := by decide +kernel
theorem dL_law_157 : decode cL_law 157 = .ok (.iconst 1, 1) := by decide +kernel
theorem dL_law_158 : decode cL_law 158 = .ok (.iadd, 1) := by decide +kernel
theorem dL_law_159 : decode cL_law 159 = .ok (.iaload, 1) := by decide +kernel
theorem dL_law_160 : decode cL_law 160 = .ok (.aload_n 0, 1) := by decide +kernel
theorem dL_law_161 : decode cL_law 161 = .ok (.iload_n 3, 1) := by decide +kernel
theorem dL_law_162 : decode cL_law 162 = .ok (.iconst 2, 1) := by decide +kernel
theorem dL_law_163 : decode cL_law 163 = .ok (.iadd, 1) := by decide +kernel
theorem dL_law_164 : decode cL_law 164 = .ok (.iaload, 1) := by decide +kernel
theorem dL_law_165 : decode cL_law 165 = .ok (.invokevirtual 17, 3) := by decide +kernel
theorem dL_law_168 : decode cL_law 168 = .ok (.if_icmp .eq 531, 3) := by decide +kernel
theorem dL_law_171 : decode cL_law 171 = .ok (.iconst 0, 1) := by decide +kernel
theorem dL_law_172 : decode cL_law 172 = .ok (.ireturn, 1) := by decide +kernel
theorem dL_law_173 : decode cL_law 173 = .ok (.aload_n 1, 1) := by decide +kernel
theorem dL_law_174 : decode cL_law 174 = .ok (.aload_n 0, 1) := by decide +kernel
theorem dL_law_175 : decode cL_law 175 = .ok (.iload_n 3, 1) := by decide +kernel
theorem dL_law_176 : decode cL_law 176 = .ok (.iconst 1, 1) := by decide +kernel
theorem dL_law_177 : decode cL_law 177 = .ok (.iadd, 1) := by decide +kernel
theorem dL_law_178 : decode cL_law 178 = .ok (.iaload, 1) := by decide +kernel
theorem dL_law_179 : decode cL_law 179 = .ok (.aload_n 0, 1) := by decide +kernel
theorem dL_law_180 : decode cL_law 180 = .ok (.iload_n 3, 1) := by decide +kernel
theorem dL_law_181 : decode cL_law 181 = .ok (.iconst 2, 1) := by decide +kernel
theorem dL_law_182 : decode cL_law 182 = .ok (.iadd, 1) := by decide +kernel
theorem dL_law_183 : decode cL_law 183 = .ok (.iaload, 1) := by decide +kernel
theorem dL_law_184 : decode cL_law 184 = .ok (.aload_n 0, 1) := by decide +kernel
theorem dL_law_185 : decode cL_law 185 = .ok (.iload_n 3, 1) := by decide +kernel
theorem dL_law_186 : decode cL_law 186 = .ok (.iconst 3, 1) := by decide +kernel
theorem dL_law_187 : decode cL_law 187 = .ok (.iadd, 1) := by decide +kernel
theorem dL_law_188 : decode cL_law 188 = .ok (.iaload, 1) := by decide +kernel
theorem dL_law_189 : decode cL_law 189 = .ok (.invokevirtual 18, 3) := by decide +kernel
theorem dL_law_192 : decode cL_law 192 = .ok (.aload_n 2, 1) := by decide +kernel
theorem dL_law_193 : decode cL_law 193 = .ok (.aload_n 0, 1) := by decide +kernel
theorem dL_law_194 : decode cL_law 194 = .ok (.iload_n 3, 1) := by decide +kernel
theorem dL_law_195 : decode cL_law 195 = .ok (.iconst 1, 1) := by decide +kernel
theorem dL_law_196 : decode cL_law 196 = .ok (.iadd, 1) := by decide +kernel
theorem dL_law_197 : decode cL_law 197 = .ok (.iaload, 1) := by decide +kernel
theorem dL_law_198 : decode cL_law 198 = .ok (.aload_n 0, 1) := by decide +kernel
theorem dL_law_199 : decode cL_law 199 = .ok (.iload_n 3, 1) := by decide +kernel
theorem dL_law_200 : decode cL_law 200 = .ok (.iconst 2, 1) := by decide +kernel
theorem dL_law_201 : decode cL_law 201 = .ok (.iadd, 1) := by decide +kernel
theorem dL_law_202 : decode cL_law 202 = .ok (.iaload, 1) := by decide +kernel
theorem dL_law_203 : decode cL_law 203 = .ok (.aload_n 0, 1) := by decide +kernel
theorem dL_law_204 : decode cL_law 204 = .ok (.iload_n 3, 1) := by decide +kernel
theorem dL_law_205 : decode cL_law 205 = .ok (.iconst 3, 1) := by decide +kernel
theorem dL_law_206 : decode cL_law 206 = .ok (.iadd, 1) := by decide +kernel
theorem dL_law_207 : decode cL_law 207 = .ok (.iaload, 1) := by decide +kernel
theorem dL_law_208 : decode cL_law 208 = .ok (.invokevirtual 22, 3) := by decide +kernel
theorem dL_law_211 : decode cL_law 211 = .ok (.if_icmp .eq 488, 3) := by decide +kernel
theorem dL_law_214 : decode cL_law 214 = .ok (.iconst 0, 1) := by decide +kernel
theorem dL_law_215 : decode cL_law 215 = .ok (.ireturn, 1) := by decide +kernel
theorem dL_law_216 : decode cL_law 216 = .ok (.aload_n 1, 1) := by decide +kernel
theorem dL_law_217 : decode cL_law 217 = .ok (.aload_n 0, 1) := by decide +kernel
theorem dL_law_218 : decode cL_law 218 = .ok (.iload_n 3, 1) := by decide +kernel
theorem dL_law_219 : decode cL_law 219 = .ok (.iconst 1, 1) := by decide +kernel
theorem dL_law_220 : decode cL_law 220 = .ok (.iadd, 1) := by decide +kernel
theorem dL_law_221 : decode cL_law 221 = .ok (.iaload, 1) := by decide +kernel
theorem dL_law_222 : decode cL_law 222 = .ok (.aload_n 0, 1) := by decide +kernel
theorem dL_law_223 : decode cL_law 223 = .ok (.iload_n 3, 1) := by decide +kernel
theorem dL_law_224 : decode cL_law 224 = .ok (.iconst 2, 1) := by decide +kernel
theorem dL_law_225 : decode cL_law 225 = .ok (.iadd, 1) := by decide +kernel
theorem dL_law_226 : decode cL_law 226 = .ok (.iaload, 1) := by decide +kernel
theorem dL_law_227 : decode cL_law 227 = .ok (.aload_n 0, 1) := by decide +kernel
theorem dL_law_228 : decode cL_law 228 = .ok (.iload_n 3, 1) := by decide +kernel
theorem dL_law_229 : decode cL_law 229 = .ok (.iconst 3, 1) := by decide +kernel
theorem dL_law_230 : decode cL_law 230 = .ok (.iadd, 1) := by decide +kernel
theorem dL_law_231 : decode cL_law 231 = .ok (.iaload, 1) := by decide +kernel
theorem dL_law_232 : decode cL_law 232 = .ok (.invokevirtual 23, 3) := by decide +kernel
theorem dL_law_235 : decode cL_law 235 = .ok (.aload_n 2, 1) := by decide +kernel
theorem dL_law_236 : decode cL_law 236 = .ok (.aload_n 0, 1) := by decide +kernel
theorem dL_law_237 : decode cL_law 237 = .ok (.iload_n 3, 1) := by decide +kernel
theorem dL_law_238 : decode cL_law 238 = .ok (.iconst 1, 1) := by decide +kernel
theorem dL_law_239 : decode cL_law 239 = .ok (.iadd, 1) := by decide +kernel
theorem dL_law_240 : decode cL_law 240 = .ok (.iaload, 1) := by decide +kernel
theorem dL_law_241 : decode cL_law 241 = .ok (.aload_n 0, 1) := by decide +kernel
theorem dL_law_242 : decode cL_law 242 = .ok (.iload_n 3, 1) := by decide +kernel
theorem dL_law_243 : decode cL_law 243 = .ok (.iconst 2, 1) := by decide +kernel
theorem dL_law_244 : decode cL_law 244 = .ok (.iadd, 1) := by decide +kernel
theorem dL_law_245 : decode cL_law 245 = .ok (.iaload, 1) := by decide +kernel
theorem dL_law_246 : decode cL_law 246 = .ok (.aload_n 0, 1) := by decide +kernel
theorem dL_law_247 : decode cL_law 247 = .ok (.iload_n 3, 1) := by decide +kernel
theorem dL_law_248 : decode cL_law 248 = .ok (.iconst 3, 1) := by decide +kernel
theorem dL_law_249 : decode cL_law 249 = .ok (.iadd, 1) := by decide +kernel
theorem dL_law_250 : decode cL_law 250 = .ok (.iaload, 1) := by decide +kernel
theorem dL_law_251 : decode cL_law 251 = .ok (.invokevirtual 26, 3) := by decide +kernel
theorem dL_law_254 : decode cL_law 254 = .ok (.if_icmp .eq 445, 3) := by decide +kernel
theorem dL_law_257 : decode cL_law 257 = .ok (.iconst 0, 1) := by decide +kernel
theorem dL_law_258 : decode cL_law 258 = .ok (.ireturn, 1) := by decide +kernel
theorem dL_law_259 : decode cL_law 259 = .ok (.aload_n 1, 1) := by decide +kernel
theorem dL_law_260 : decode cL_law 260 = .ok (.aload_n 0, 1) := by decide +kernel
theorem dL_law_261 : decode cL_law 261 = .ok (.iload_n 3, 1) := by decide +kernel
theorem dL_law_262 : decode cL_law 262 = .ok (.iconst 1, 1) := by decide +kernel
theorem dL_law_263 : decode cL_law 263 = .ok (.iadd, 1) := by decide +kernel
theorem dL_law_264 : decode cL_law 264 = .ok (.iaload, 1) := by decide +kernel
theorem dL_law_265 : decode cL_law 265 = .ok (.invokevirtual 27, 3) := by decide +kernel
theorem dL_law_268 : decode cL_law 268 = .ok (.aload_n 2, 1) := by decide +kernel
theorem dL_law_269 : decode cL_law 269 = .ok (.aload_n 0, 1) := by decide +kernel
theorem dL_law_270 : decode cL_law 270 = .ok (.iload_n 3, 1) := by decide +kernel
theorem dL_law_271 : decode cL_law 271 = .ok (.iconst 1, 1) := by decide +kernel
theorem dL_law_272 : decode cL_law 272 = .ok (.iadd, 1) := by decide +kernel
theorem dL_law_273 : decode cL_law 273 = .ok (.iaload, 1) := by decide +kernel
theorem dL_law_274 : decode cL_law 274 = .ok (.invokevirtual 31, 3) := by decide +kernel
theorem dL_law_277 : decode cL_law 277 = .ok (.if_icmp .eq 422, 3) := by decide +kernel
theorem dL_law_280 : decode cL_law 280 = .ok (.iconst 0, 1) := by decide +kernel
theorem dL_law_281 : decode cL_law 281 = .ok (.ireturn, 1) := by decide +kernel
theorem dL_law_282 : decode cL_law 282 = .ok (.aload_n 1, 1) := by decide +kernel
theorem dL_law_283 : decode cL_law 283 = .ok (.aload_n 0, 1) := by decide +kernel
theorem dL_law_284 : decode cL_law 284 = .ok (.iload_n 3, 1) := by decide +kernel
theorem dL_law_285 : decode cL_law 285 = .ok (.iconst 1, 1) := by decide +kernel
theorem dL_law_286 : decode cL_law 286 = .ok (.iadd, 1) := by decide +kernel
theorem dL_law_287 : decode cL_law 287 = .ok (.iaload, 1) := by decide +kernel
theorem dL_law_288 : decode cL_law 288 = .ok (.invokevirtual 32, 3) := by decide +kernel
theorem dL_law_291 : decode cL_law 291 = .ok (.aload_n 2, 1) := by decide +kernel
theorem dL_law_292 : decode cL_law 292 = .ok (.aload_n 0, 1) := by decide +kernel
theorem dL_law_293 : decode cL_law 293 = .ok (.iload_n 3, 1) := by decide +kernel
theorem dL_law_294 : decode cL_law 294 = .ok (.iconst 1, 1) := by decide +kernel
theorem dL_law_295 : decode cL_law 295 = .ok (.iadd, 1) := by decide +kernel
theorem dL_law_296 : decode cL_law 296 = .ok (.iaload, 1) := by decide +kernel
theorem dL_law_297 : decode cL_law 297 = .ok (.invokevirtual 35, 3) := by decide +kernel
theorem dL_law_300 : decode cL_law 300 = .ok (.if_icmp .eq 399, 3) := by decide +kernel
theorem dL_law_303 : decode cL_law 303 = .ok (.iconst 0, 1) := by decide +kernel
theorem dL_law_304 : decode cL_law 304 = .ok (.ireturn, 1) := by decide +kernel
theorem dL_law_305 : decode cL_law 305 = .ok (.aload_n 1, 1) := by decide +kernel
theorem dL_law_306 : decode cL_law 306 = .ok (.aload_n 0, 1) := by decide +kernel
theorem dL_law_307 : decode cL_law 307 = .ok (.iload_n 3, 1) := by decide +kernel
theorem dL_law_308 : decode cL_law 308 = .ok (.iconst 1, 1) := by decide +kernel
theorem dL_law_309 : decode cL_law 309 = .ok (.iadd, 1) := by decide +kernel
theorem dL_law_310 : decode cL_law 310 = .ok (.iaload, 1) := by decide +kernel
theorem dL_law_311 : decode cL_law 311 = .ok (.invokevirtual 36, 3) := by decide +kernel
theorem dL_law_314 : decode cL_law 314 = .ok (.aload_n 2, 1) := by decide +kernel
theorem dL_law_315 : decode cL_law 315 = .ok (.aload_n 0, 1) := by decide +kernel
theorem dL_law_316 : decode cL_law 316 = .ok (.iload_n 3, 1) := by decide +kernel
theorem dL_law_317 : decode cL_law 317 = .ok (.iconst 1, 1) := by decide +kernel
theorem dL_law_318 : decode cL_law 318 = .ok (.iadd, 1) := by decide +kernel
theorem dL_law_319 : decode cL_law 319 = .ok (.iaload, 1) := by decide +kernel
theorem dL_law_320 : decode cL_law 320 = .ok (.invokevirtual 39, 3) := by decide +kernel
theorem dL_law_323 : decode cL_law 323 = .ok (.if_icmp .eq 376, 3) := by decide +kernel
theorem dL_law_326 : decode cL_law 326 = .ok (.iconst 0, 1) := by decide +kernel
theorem dL_law_327 : decode cL_law 327 = .ok (.ireturn, 1) := by decide +kernel
theorem dL_law_328 : decode cL_law 328 = .ok (.aload_n 1, 1) := by decide +kernel
theorem dL_law_329 : decode cL_law 329 = .ok (.aload_n 0, 1) := by decide +kernel
theorem dL_law_330 : decode cL_law 330 = .ok (.iload_n 3, 1) := by decide +kernel
theorem dL_law_331 : decode cL_law 331 = .ok (.iconst 1, 1) := by decide +kernel
theorem dL_law_332 : decode cL_law 332 = .ok (.iadd, 1) := by decide +kernel
theorem dL_law_333 : decode cL_law 333 = .ok (.iaload, 1) := by decide +kernel
theorem dL_law_334 : decode cL_law 334 = .ok (.invokevirtual 40, 3) := by decide +kernel
theorem dL_law_337 : decode cL_law 337 = .ok (.aload_n 2, 1) := by decide +kernel
theorem dL_law_338 : decode cL_law 338 = .ok (.aload_n 0, 1) := by decide +kernel
theorem dL_law_339 : decode cL_law 339 = .ok (.iload_n 3, 1) := by decide +kernel
theorem dL_law_340 : decode cL_law 340 = .ok (.iconst 1, 1) := by decide +kernel
theorem dL_law_341 : decode cL_law 341 = .ok (.iadd, 1) := by decide +kernel
theorem dL_law_342 : decode cL_law 342 = .ok (.iaload, 1) := by decide +kernel
theorem dL_law_343 : decode cL_law 343 = .ok (.invokevirtual 43, 3) := by decide +kernel
theorem dL_law_346 : decode cL_law 346 = .ok (.if_icmp .eq 353, 3) := by decide +kernel
theorem dL_law_349 : decode cL_law 349 = .ok (.iconst 0, 1) := by decide +kernel
theorem dL_law_350 : decode cL_law 350 = .ok (.ireturn, 1) := by decide +kernel
theorem dL_law_351 : decode cL_law 351 = .ok (.aload_n 1, 1) := by decide +kernel
theorem dL_law_352 : decode cL_law 352 = .ok (.aload_n 0, 1) := by decide +kernel
theorem dL_law_353 : decode cL_law 353 = .ok (.iload_n 3, 1) := by decide +kernel
theorem dL_law_354 : decode cL_law 354 = .ok (.iconst 1, 1) := by decide +kernel
theorem dL_law_355 : decode cL_law 355 = .ok (.iadd, 1) := by decide +kernel
theorem dL_law_356 : decode cL_law 356 = .ok (.iaload, 1) := by decide +kernel
theorem dL_law_357 : decode cL_law 357 = .ok (.aload_n 0, 1) := by decide +kernel
theorem dL_law_358 : decode cL_law 358 = .ok (.iload_n 3, 1) := by decide +kernel
theorem dL_law_359 : decode cL_law 359 = .ok (.iconst 2, 1) := by decide +kernel
theorem dL_law_360 : decode cL_law 360 = .ok (.iadd, 1) := by decide +kernel
theorem dL_law_361 : decode cL_law 361 = .ok (.iaload, 1) := by decide +kernel
theorem dL_law_362 : decode cL_law 362 = .ok (.invokevirtual 44, 3) := by decide +kernel
theorem dL_law_365 : decode cL_law 365 = .ok (.aload_n 2, 1) := by decide +kernel
theorem dL_law_366 : decode cL_law 366 = .ok (.aload_n 0, 1) := by decide +kernel
theorem dL_law_367 : decode cL_law 367 = .ok (.iload_n 3, 1) := by decide +kernel
theorem dL_law_368 : decode cL_law 368 = .ok (.iconst 1, 1) := by decide +kernel
theorem dL_law_369 : decode cL_law 369 = .ok (.iadd, 1) := by decide +kernel
theorem dL_law_370 : decode cL_law 370 = .ok (.iaload, 1) := by decide +kernel
theorem dL_law_371 : decode cL_law 371 = .ok (.aload_n 0, 1) := by decide +kernel
theorem dL_law_372 : decode cL_law 372 = .ok (.iload_n 3, 1) := by decide +kernel
theorem dL_law_373 : decode cL_law 373 = .ok (.iconst 2, 1) := by decide +kernel
theorem dL_law_374 : decode cL_law 374 = .ok (.iadd, 1) := by decide +kernel
theorem dL_law_375 : decode cL_law 375 = .ok (.iaload, 1) := by decide +kernel
theorem dL_law_376 : decode cL_law 376 = .ok (.invokevirtual 47, 3) := by decide +kernel
theorem dL_law_379 : decode cL_law 379 = .ok (.if_icmp .eq 320, 3) := by decide +kernel
theorem dL_law_382 : decode cL_law 382 = .ok (.iconst 0, 1) := by decide +kernel
theorem dL_law_383 : decode cL_law 383 = .ok (.ireturn, 1) := by decide +kernel
theorem dL_law_384 : decode cL_law 384 = .ok (.aload_n 1, 1) := by decide +kernel
theorem dL_law_385 : decode cL_law 385 = .ok (.aload_n 0, 1) := by decide +kernel
theorem dL_law_386 : decode cL_law 386 = .ok (.iload_n 3, 1) := by decide +kernel
theorem dL_law_387 : decode cL_law 387 = .ok (.iconst 1, 1) := by decide +kernel
theorem dL_law_388 : decode cL_law 388 = .ok (.iadd, 1) := by decide +kernel
theorem dL_law_389 : decode cL_law 389 = .ok (.iaload, 1) := by decide +kernel
theorem dL_law_390 : decode cL_law 390 = .ok (.invokevirtual 48, 3) := by decide +kernel
theorem dL_law_393 : decode cL_law 393 = .ok (.aload_n 2, 1) := by decide +kernel
theorem dL_law_394 : decode cL_law 394 = .ok (.aload_n 0, 1) := by decide +kernel
theorem dL_law_395 : decode cL_law 395 = .ok (.iload_n 3, 1) := by decide +kernel
theorem dL_law_396 : decode cL_law 396 = .ok (.iconst 1, 1) := by decide +kernel
theorem dL_law_397 : decode cL_law 397 = .ok (.iadd, 1) := by decide +kernel
theorem dL_law_398 : decode cL_law 398 = .ok (.iaload, 1) := by decide +kernel
theorem dL_law_399 : decode cL_law 399 = .ok (.invokevirtual 51, 3) := by decide +kernel
theorem dL_law_402 : decode cL_law 402 = .ok (.if_icmp .eq 297, 3) := by decide +kernel
theorem dL_law_405 : decode cL_law 405 = .ok (.iconst 0, 1) := by decide +kernel
theorem dL_law_406 : decode cL_law 406 = .ok (.ireturn, 1) := by decide +kernel
theorem dL_law_407 : decode cL_law 407 = .ok (.aload_n 1, 1) := by decide +kernel
theorem dL_law_408 : decode cL_law 408 = .ok (.aload_n 0, 1) := by decide +kernel
theorem dL_law_409 : decode cL_law 409 = .ok (.iload_n 3, 1) := by decide +kernel
theorem dL_law_410 : decode cL_law 410 = .ok (.iconst 1, 1) := by decide +kernel
theorem dL_law_411 : decode cL_law 411 = .ok (.iadd, 1) := by decide +kernel
theorem dL_law_412 : decode cL_law 412 = .ok (.iaload, 1) := by decide +kernel
theorem dL_law_413 : decode cL_law 413 = .ok (.invokevirtual 52, 3) := by decide +kernel
theorem dL_law_416 : decode cL_law 416 = .ok (.aload_n 2, 1) := by decide +kernel
theorem dL_law_417 : decode cL_law 417 = .ok (.aload_n 0, 1) := by decide +kernel
theorem dL_law_418 : decode cL_law 418 = .ok (.iload_n 3, 1) := by decide +kernel
theorem dL_law_419 : decode cL_law 419 = .ok (.iconst 1, 1) := by decide +kernel
theorem dL_law_420 : decode cL_law 420 = .ok (.iadd, 1) := by decide +kernel
theorem dL_law_421 : decode cL_law 421 = .ok (.iaload, 1) := by decide +kernel
theorem dL_law_422 : decode cL_law 422 = .ok (.invokevirtual 55, 3) := by decide +kernel
theorem dL_law_425 : decode cL_law 425 = .ok (.if_icmp .eq 274, 3) := by decide +kernel
theorem dL_law_428 : decode cL_law 428 = .ok (.iconst 0, 1) := by decide +kernel
theorem dL_law_429 : decode cL_law 429 = .ok (.ireturn, 1) := by decide +kernel
theorem dL_law_430 : decode cL_law 430 = .ok (.aload_n 1, 1) := by decide +kernel
theorem dL_law_431 : decode cL_law 431 = .ok (.aload_n 0, 1) := by decide +kernel
theorem dL_law_432 : decode cL_law 432 = .ok (.iload_n 3, 1) := by decide +kernel
theorem dL_law_433 : decode cL_law 433 = .ok (.iconst 1, 1) := by decide +kernel
theorem dL_law_434 : decode cL_law 434 = .ok (.iadd, 1) := by decide +kernel
theorem dL_law_435 : decode cL_law 435 = .ok (.iaload, 1) := by decide +kernel
theorem dL_law_436 : decode cL_law 436 = .ok (.invokevirtual 56, 3) := by decide +kernel
theorem dL_law_439 : decode cL_law 439 = .ok (.aload_n 2, 1) := by decide +kernel
theorem dL_law_440 : decode cL_law 440 = .ok (.aload_n 0, 1) := by decide +kernel
theorem dL_law_441 : decode cL_law 441 = .ok (.iload_n 3, 1) := by decide +kernel
theorem dL_law_442 : decode cL_law 442 = .ok (.iconst 1, 1) := by decide +kernel
theorem dL_law_443 : decode cL_law 443 = .ok (.iadd, 1) := by decide +kernel
theorem dL_law_444 : decode cL_law 444 = .ok (.iaload, 1) := by decide +kernel
theorem dL_law_445 : decode cL_law 445 = .ok (.invokevirtual 59, 3) := by decide +kernel
theorem dL_law_448 : decode cL_law 448 = .ok (.if_icmp .eq 251, 3) := by decide +kernel
theorem dL_law_451 : decode cL_law 451 = .ok (.iconst 0, 1) := by decide +kernel
theorem dL_law_452 : decode cL_law 452 = .ok (.ireturn, 1) := by decide +kernel
theorem dL_law_453 : decode cL_law 453 = .ok (.aload_n 1, 1) := by decide +kernel
theorem dL_law_454 : decode cL_law 454 = .ok (.aload_n 0, 1) := by decide +kernel
theorem dL_law_455 : decode cL_law 455 = .ok (.iload_n 3, 1) := by decide +kernel
theorem dL_law_456 : decode cL_law 456 = .ok (.iconst 1, 1) := by decide +kernel
theorem dL_law_457 : decode cL_law 457 = .ok (.iadd, 1) := by decide +kernel
theorem dL_law_458 : decode cL_law 458 = .ok (.iaload, 1) := by decide +kernel
theorem dL_law_459 : decode cL_law 459 = .ok (.invokevirtual 60, 3) := by decide +kernel
theorem dL_law_462 : decode cL_law 462 = .ok (.aload_n 2, 1) := by decide +kernel
theorem dL_law_463 : decode cL_law 463 = .ok (.aload_n 0, 1) := by decide +kernel
theorem dL_law_464 : decode cL_law 464 = .ok (.iload_n 3, 1) := by decide +kernel
theorem dL_law_465 : decode cL_law 465 = .ok (.iconst 1, 1) := by decide +kernel
theorem dL_law_466 : decode cL_law 466 = .ok (.iadd, 1) := by decide +kernel
theorem dL_law_467 : decode cL_law 467 = .ok (.iaload, 1) := by decide +kernel
theorem dL_law_468 : decode cL_law 468 = .ok (.invokevirtual 63, 3) := by decide +kernel
theorem dL_law_471 : decode cL_law 471 = .ok (.if_icmp .eq 228, 3) := by decide +kernel
theorem dL_law_474 : decode cL_law 474 = .ok (.iconst 0, 1) := by decide +kernel
theorem dL_law_475 : decode cL_law 475 = .ok (.ireturn, 1) := by decide +kernel
theorem dL_law_476 : decode cL_law 476 = .ok (.aload_n 1, 1) := by decide +kernel
theorem dL_law_477 : decode cL_law 477 = .ok (.aload_n 0, 1) := by decide +kernel
theorem dL_law_478 : decode cL_law 478 = .ok (.iload_n 3, 1) := by decide +kernel
theorem dL_law_479 : decode cL_law 479 = .ok (.iconst 1, 1) := by decide +kernel
theorem dL_law_480 : decode cL_law 480 = .ok (.iadd, 1) := by decide +kernel
theorem dL_law_481 : decode cL_law 481 = .ok (.iaload, 1) := by decide +kernel
theorem dL_law_482 : decode cL_law 482 = .ok (.invokevirtual 64, 3) := by decide +kernel
theorem dL_law_485 : decode cL_law 485 = .ok (.aload_n 2, 1) := by decide +kernel
theorem dL_law_486 : decode cL_law 486 = .ok (.aload_n 0, 1) := by decide +kernel
theorem dL_law_487 : decode cL_law 487 = .ok (.iload_n 3, 1) := by decide +kernel
theorem dL_law_488 : decode cL_law 488 = .ok (.iconst 1, 1) := by decide +kernel
theorem dL_law_489 : decode cL_law 489 = .ok (.iadd, 1) := by decide +kernel
theorem dL_law_490 : decode cL_law 490 = .ok (.iaload, 1) := by decide +kernel
theorem dL_law_491 : decode cL_law 491 = .ok (.invokevirtual 67, 3) := by decide +kernel
theorem dL_law_494 : decode cL_law 494 = .ok (.if_icmp .eq 205, 3) := by decide +kernel
theorem dL_law_497 : decode cL_law 497 = .ok (.iconst 0, 1) := by decide +kernel
theorem dL_law_498 : decode cL_law 498 = .ok (.ireturn, 1) := by decide +kernel
theorem dL_law_499 : decode cL_law 499 = .ok (.aload_n 1, 1) := by decide +kernel
theorem dL_law_500 : decode cL_law 500 = .ok (.aload_n 0, 1) := by decide +kernel
theorem dL_law_501 : decode cL_law 501 = .ok (.iload_n 3, 1) := by decide +kernel
theorem dL_law_502 : decode cL_law 502 = .ok (.iconst 1, 1) := by decide +kernel
theorem dL_law_503 : decode cL_law 503 = .ok (.iadd, 1) := by decide +kernel
theorem dL_law_504 : decode cL_law 504 = .ok (.iaload, 1) := by decide +kernel
theorem dL_law_505 : decode cL_law 505 = .ok (.invokevirtual 68, 3) := by decide +kernel
theorem dL_law_508 : decode cL_law 508 = .ok (.aload_n 2, 1) := by decide +kernel
theorem dL_law_509 : decode cL_law 509 = .ok (.aload_n 0, 1) := by decide +kernel
theorem dL_law_510 : decode cL_law 510 = .ok (.iload_n 3, 1) := by decide +kernel
theorem dL_law_511 : decode cL_law 511 = .ok (.iconst 1, 1) := by decide +kernel
theorem dL_law_512 : decode cL_law 512 = .ok (.iadd, 1) := by decide +kernel
theorem dL_law_513 : decode cL_law 513 = .ok (.iaload, 1) := by decide +kernel
theorem dL_law_514 : decode cL_law 514 = .ok (.invokevirtual 71, 3) := by decide +kernel
theorem dL_law_517 : decode cL_law 517 = .ok (.if_icmp .eq 182, 3) := by decide +kernel
theorem dL_law_520 : decode cL_law 520 = .ok (.iconst 0, 1) := by decide +kernel
theorem dL_law_521 : decode cL_law 521 = .ok (.ireturn, 1) := by decide +kernel
theorem dL_law_522 : decode cL_law 522 = .ok (.aload_n 1, 1) := by decide +kernel
theorem dL_law_523 : decode cL_law 523 = .ok (.invokevirtual 72, 3) := by decide +kernel
theorem dL_law_526 : decode cL_law 526 = .ok (.aload_n 2, 1) := by decide +kernel
theorem dL_law_527 : decode cL_law 527 = .ok (.invokevirtual 76, 3) := by decide +kernel
theorem dL_law_530 : decode cL_law 530 = .ok (.if_icmp .eq 169, 3) := by decide +kernel
theorem dL_law_533 : decode cL_law 533 = .ok (.iconst 0, 1) := by decide +kernel
theorem dL_law_534 : decode cL_law 534 = .ok (.ireturn, 1) := by decide +kernel
theorem dL_law_535 : decode cL_law 535 = .ok (.aload_n 1, 1) := by decide +kernel
theorem dL_law_536 : decode cL_law 536 = .ok (.invokevirtual 77, 3) := by decide +kernel
theorem dL_law_539 : decode cL_law 539 = .ok (.aload_n 2, 1) := by decide +kernel
theorem dL_law_540 : decode cL_law 540 = .ok (.invokevirtual 80, 3) := by decide +kernel
theorem dL_law_543 : decode cL_law 543 = .ok (.if_icmp .eq 156, 3) := by decide +kernel
theorem dL_law_546 : decode cL_law 546 = .ok (.iconst 0, 1) := by decide +kernel
theorem dL_law_547 : decode cL_law 547 = .ok (.ireturn, 1) := by decide +kernel
theorem dL_law_548 : decode cL_law 548 = .ok (.aload_n 1, 1) := by decide +kernel
theorem dL_law_549 : decode cL_law 549 = .ok (.aload_n 0, 1) := by decide +kernel
theorem dL_law_550 : decode cL_law 550 = .ok (.iload_n 3, 1) := by decide +kernel
theorem dL_law_551 : decode cL_law 551 = .ok (.iconst 1, 1) := by decide +kernel
theorem dL_law_552 : decode cL_law 552 = .ok (.iadd, 1) := by decide +kernel
theorem dL_law_553 : decode cL_law 553 = .ok (.iaload, 1) := by decide +kernel
theorem dL_law_554 : decode cL_law 554 = .ok (.i2l, 1) := by decide +kernel
theorem dL_law_555 : decode cL_law 555 = .ok (.bipush 32, 2) := by decide +kernel
theorem dL_law_557 : decode cL_law 557 = .ok (.lshl, 1) := by decide +kernel
theorem dL_law_558 : decode cL_law 558 = .ok (.aload_n 0, 1) := by decide +kernel
theorem dL_law_559 : decode cL_law 559 = .ok (.iload_n 3, 1) := by decide +kernel
theorem dL_law_560 : decode cL_law 560 = .ok (.iconst 2, 1) := by decide +kernel
theorem dL_law_561 : decode cL_law 561 = .ok (.iadd, 1) := by decide +kernel
theorem dL_law_562 : decode cL_law 562 = .ok (.iaload, 1) := by decide +kernel
theorem dL_law_563 : decode cL_law 563 = .ok (.i2l, 1) := by decide +kernel
theorem dL_law_564 : decode cL_law 564 = .ok (.ldc2_w 81, 3) := by decide +kernel
theorem dL_law_567 : decode cL_law 567 = .ok (.land, 1) := by decide +kernel
theorem dL_law_568 : decode cL_law 568 = .ok (.lor, 1) := by decide +kernel
theorem dL_law_569 : decode cL_law 569 = .ok (.invokevirtual 83, 3) := by decide +kernel
theorem dL_law_572 : decode cL_law 572 = .ok (.aload_n 2, 1) := by decide +kernel
theorem dL_law_573 : decode cL_law 573 = .ok (.aload_n 0, 1) := by decide +kernel
theorem dL_law_574 : decode cL_law 574 = .ok (.iload_n 3, 1) := by decide +kernel
theorem dL_law_575 : decode cL_law 575 = .ok (.iconst 1, 1) := by decide +kernel
theorem dL_law_576 : decode cL_law 576 = .ok (.iadd, 1) := by decide +kernel
theorem dL_law_577 : decode cL_law 577 = .ok (.iaload, 1) := by decide +kernel
theorem dL_law_578 : decode cL_law 578 = .ok (.i2l, 1) := by decide +kernel
theorem dL_law_579 : decode cL_law 579 = .ok (.bipush 32, 2) := by decide +kernel
theorem dL_law_581 : decode cL_law 581 = .ok (.lshl, 1) := by decide +kernel
theorem dL_law_582 : decode cL_law 582 = .ok (.aload_n 0, 1) := by decide +kernel
theorem dL_law_583 : decode cL_law 583 = .ok (.iload_n 3, 1) := by decide +kernel
theorem dL_law_584 : decode cL_law 584 = .ok (.iconst 2, 1) := by decide +kernel
theorem dL_law_585 : decode cL_law 585 = .ok (.iadd, 1) := by decide +kernel
theorem dL_law_586 : decode cL_law 586 = .ok (.iaload, 1) := by decide +kernel
theorem dL_law_587 : decode cL_law 587 = .ok (.i2l, 1) := by decide +kernel
theorem dL_law_588 : decode cL_law 588 = .ok (.ldc2_w 81, 3) := by decide +kernel
theorem dL_law_591 : decode cL_law 591 = .ok (.land, 1) := by decide +kernel
theorem dL_law_592 : decode cL_law 592 = .ok (.lor, 1) := by decide +kernel
theorem dL_law_593 : decode cL_law 593 = .ok (.invokevirtual 87, 3) := by decide +kernel
theorem dL_law_596 : decode cL_law 596 = .ok (.if_icmp .eq 103, 3) := by decide +kernel
theorem dL_law_599 : decode cL_law 599 = .ok (.iconst 0, 1) := by decide +kernel
theorem dL_law_600 : decode cL_law 600 = .ok (.ireturn, 1) := by decide +kernel
theorem dL_law_601 : decode cL_law 601 = .ok (.aload_n 1, 1) := by decide +kernel
theorem dL_law_602 : decode cL_law 602 = .ok (.invokevirtual 88, 3) := by decide +kernel
theorem dL_law_605 : decode cL_law 605 = .ok (.aload_n 2, 1) := by decide +kernel
theorem dL_law_606 : decode cL_law 606 = .ok (.invokevirtual 91, 3) := by decide +kernel
theorem dL_law_609 : decode cL_law 609 = .ok (.if_icmp .eq 90, 3) := by decide +kernel
theorem dL_law_612 : decode cL_law 612 = .ok (.iconst 0, 1) := by decide +kernel
theorem dL_law_613 : decode cL_law 613 = .ok (.ireturn, 1) := by decide +kernel
theorem dL_law_614 : decode cL_law 614 = .ok (.aload_n 1, 1) := by decide +kernel
theorem dL_law_615 : decode cL_law 615 = .ok (.invokevirtual 92, 3) := by decide +kernel
theorem dL_law_618 : decode cL_law 618 = .ok (.aload_n 2, 1) := by decide +kernel
theorem dL_law_619 : decode cL_law 619 = .ok (.invokevirtual 95, 3) := by decide +kernel
theorem dL_law_622 : decode cL_law 622 = .ok (.if_icmp .eq 77, 3) := by decide +kernel
theorem dL_law_625 : decode cL_law 625 = .ok (.iconst 0, 1) := by decide +kernel
theorem dL_law_626 : decode cL_law 626 = .ok (.ireturn, 1) := by decide +kernel
theorem dL_law_627 : decode cL_law 627 = .ok (.aload_n 1, 1) := by decide +kernel
theorem dL_law_628 : decode cL_law 628 = .ok (.invokevirtual 96, 3) := by decide +kernel
theorem dL_law_631 : decode cL_law 631 = .ok (.aload_n 2, 1) := by decide +kernel
theorem dL_law_632 : decode cL_law 632 = .ok (.invokevirtual 99, 3) := by decide +kernel
theorem dL_law_635 : decode cL_law 635 = .ok (.if_icmp .eq 64, 3) := by decide +kernel
theorem dL_law_638 : decode cL_law 638 = .ok (.iconst 0, 1) := by decide +kernel
theorem dL_law_639 : decode cL_law 639 = .ok (.ireturn, 1) := by decide +kernel
theorem dL_law_640 : decode cL_law 640 = .ok (.aload_n 1, 1) := by decide +kernel
theorem dL_law_641 : decode cL_law 641 = .ok (.invokevirtual 100, 3) := by decide +kernel
theorem dL_law_644 : decode cL_law 644 = .ok (.aload_n 2, 1) := by decide +kernel
theorem dL_law_645 : decode cL_law 645 = .ok (.invokevirtual 103, 3) := by decide +kernel
theorem dL_law_648 : decode cL_law 648 = .ok (.if_icmp .eq 51, 3) := by decide +kernel
theorem dL_law_651 : decode cL_law 651 = .ok (.iconst 0, 1) := by decide +kernel
theorem dL_law_652 : decode cL_law 652 = .ok (.ireturn, 1) := by decide +kernel
theorem dL_law_653 : decode cL_law 653 = .ok (.aload_n 1, 1) := by decide +kernel
theorem dL_law_654 : decode cL_law 654 = .ok (.aload_n 0, 1) := by decide +kernel
theorem dL_law_655 : decode cL_law 655 = .ok (.iload_n 3, 1) := by decide +kernel
theorem dL_law_656 : decode cL_law 656 = .ok (.iconst 1, 1) := by decide +kernel
theorem dL_law_657 : decode cL_law 657 = .ok (.iadd, 1) := by decide +kernel
theorem dL_law_658 : decode cL_law 658 = .ok (.iaload, 1) := by decide +kernel
theorem dL_law_659 : decode cL_law 659 = .ok (.invokevirtual 104, 3) := by decide +kernel
theorem dL_law_662 : decode cL_law 662 = .ok (.aload_n 2, 1) := by decide +kernel
theorem dL_law_663 : decode cL_law 663 = .ok (.aload_n 0, 1) := by decide +kernel
theorem dL_law_664 : decode cL_law 664 = .ok (.iload_n 3, 1) := by decide +kernel
theorem dL_law_665 : decode cL_law 665 = .ok (.iconst 1, 1) := by decide +kernel
theorem dL_law_666 : decode cL_law 666 = .ok (.iadd, 1) := by decide +kernel
theorem dL_law_667 : decode cL_law 667 = .ok (.iaload, 1) := by decide +kernel
theorem dL_law_668 : decode cL_law 668 = .ok (.invokevirtual 107, 3) := by decide +kernel
theorem dL_law_671 : decode cL_law 671 = .ok (.if_icmp .eq 28, 3) := by decide +kernel
theorem dL_law_674 : decode cL_law 674 = .ok (.iconst 0, 1) := by decide +kernel
theorem dL_law_675 : decode cL_law 675 = .ok (.ireturn, 1) := by decide +kernel
theorem dL_law_676 : decode cL_law 676 = .ok (.aload_n 1, 1) := by decide +kernel
theorem dL_law_677 : decode cL_law 677 = .ok (.aload_n 0, 1) := by decide +kernel
theorem dL_law_678 : decode cL_law 678 = .ok (.iload_n 3, 1) := by decide +kernel
theorem dL_law_679 : decode cL_law 679 = .ok (.iconst 1, 1) := by decide +kernel
theorem dL_law_680 : decode cL_law 680 = .ok (.iadd, 1) := by decide +kernel
theorem dL_law_681 : decode cL_law 681 = .ok (.iaload, 1) := by decide +kernel
theorem dL_law_682 : decode cL_law 682 = .ok (.invokevirtual 108, 3) := by decide +kernel
theorem dL_law_685 : decode cL_law 685 = .ok (.aload_n 2, 1) := by decide +kernel
theorem dL_law_686 : decode cL_law 686 = .ok (.aload_n 0, 1) := by decide +kernel
theorem dL_law_687 : decode cL_law 687 = .ok (.iload_n 3, 1) := by decide +kernel
theorem dL_law_688 : decode cL_law 688 = .ok (.iconst 1, 1) := by decide +kernel
theorem dL_law_689 : decode cL_law 689 = .ok (.iadd, 1) := by decide +kernel
theorem dL_law_690 : decode cL_law 690 = .ok (.iaload, 1) := by decide +kernel
theorem dL_law_691 : decode cL_law 691 = .ok (.invokevirtual 111, 3) := by decide +kernel
theorem dL_law_694 : decode cL_law 694 = .ok (.if_icmp .eq 5, 3) := by decide +kernel
theorem dL_law_697 : decode cL_law 697 = .ok (.iconst 0, 1) := by decide +kernel
theorem dL_law_698 : decode cL_law 698 = .ok (.ireturn, 1) := by decide +kernel
theorem dL_law_699 : decode cL_law 699 = .ok (.iinc 3 4, 3) := by decide +kernel
theorem dL_law_702 : decode cL_law 702 = .ok (.goto (-684), 3) := by decide +kernel
theorem dL_law_705 : decode cL_law 705 = .ok (.iconst 1, 1) := by decide +kernel
theorem dL_law_706 : decode cL_law 706 = .ok (.ireturn, 1) := by decide +kernel
abbrev vwCl : List vw_C := [(RX0, TX0, 6), (RX1, TX1, 2), (RX2, TX2, 2), (RX3, TX3, 2), (RX4, TX4, 7), (RX5, TX5, 6), (RX6, TX6, 7), (RX7, TX7, 15)]
