def gi {α : Type} : List α → Nat → Option α
  | [], _ => none
  | a :: _, 0 => some a
  | _ :: t, n + 1 => gi t n
theorem gi_mem {α : Type} {l : List α} {i : Nat} {a : α} (h : gi l i = some a) : a ∈ l := by
  induction l generalizing i with
  | nil => cases h
  | cons x t ih =>
    cases i with
    | zero => rw [show x = a from Option.some.inj h]; exact List.mem_cons_self
    | succ n => exact List.mem_cons_of_mem _ (ih h)
theorem dcd {cc : ByteArray} {ins : List (Nat × Instr × Nat)} (h : ins.all (fun q => decide (decode cc q.1 = .ok q.2)) = true) (i : Nat) (q : Nat × Instr × Nat) (hi : gi ins i = some q) : decode cc q.1 = .ok q.2 := by
  have h1 := List.all_eq_true.mp h q (gi_mem hi)
  exact of_decide_eq_true h1
def wT : List Cond := lw_tbl.filter goodWord
theorem tw {w : Cond} (i : Nat) (h : lw_tbl[i]? = some w) (hg : goodWord w = true) : w ∈ wT := List.mem_filter.mpr ⟨List.mem_of_getElem? h, hg⟩
theorem wT_tbl : ∀ w ∈ wT, w ∈ lw_tbl := fun _ h => (List.mem_filter.mp h).1
theorem gI {b1 : ByteArray} {y : MethodName} {n : Nat} {r : Option FieldType} (h : Cond.code y b1 n r ∈ wT) : GoodIn wT (Cond.code y b1 n r :: wT) := by
  intro w hw
  rcases List.mem_cons.mp hw with rfl | hw
  · exact ⟨h, good_of_word (List.mem_filter.mp h).2⟩
  · exact ⟨hw, good_of_word (List.mem_filter.mp hw).2⟩
def RX0 : String := "PointAnswers$Bundle"
def TX0 : u_T := fun k => match k with
  | 0 => ("PointAnswers$Bundle", "rows", "[LPointAnswers$Point;", true)
  | 1 => ("PointAnswers$Bundle", "size", "I", false)
  | 2 => ("PointAnswers$Bundle", "day", "I", false)
  | 3 => ("PointAnswers$Bundle", "overruled", "I", false)
  | 4 => ("PointAnswers$Bundle", "lapse", "I", false)
  | _ => ("PointAnswers$Bundle", "allowedPages", "I", false)
def tyX0 : Nat → FieldType := fun k => match k with
  | 0 => .array (.object "PointAnswers$Point")
  | 1 => .int
  | 2 => .int
  | 3 => .int
  | 4 => .int
  | _ => .int
theorem nmX0 : ∀ a, a < 6 → ∀ b, b < 6 → a ≠ b → (TX0 a).2.1 ≠ (TX0 b).2.1 := by decide +kernel
theorem tyX0_ok : ∀ k, k < 6 → parseFieldDescriptor (TX0 k).2.2.1 = some (tyX0 k) := by decide +kernel
theorem inX0 : ∀ w ∈ u_ws RX0 TX0 6, w ∈ wT := by decide +kernel
def RX1 : String := "PointAnswers$Costs"
def TX1 : u_T := fun k => match k with
  | 0 => ("PointAnswers$Costs", "fall", "[I", true)
  | _ => ("PointAnswers$Costs", "stand", "[I", true)
def tyX1 : Nat → FieldType := fun k => match k with
  | 0 => .array .int
  | _ => .array .int
theorem nmX1 : ∀ a, a < 2 → ∀ b, b < 2 → a ≠ b → (TX1 a).2.1 ≠ (TX1 b).2.1 := by decide +kernel
theorem tyX1_ok : ∀ k, k < 2 → parseFieldDescriptor (TX1 k).2.2.1 = some (tyX1 k) := by decide +kernel
theorem inX1 : ∀ w ∈ u_ws RX1 TX1 2, w ∈ wT := by decide +kernel
def RX2 : String := "PointAnswers$History"
def TX2 : u_T := fun k => match k with
  | 0 => ("PointAnswers$History", "rows", "[LPointAnswers$Bundle;", true)
  | _ => ("PointAnswers$History", "kept", "I", false)
def tyX2 : Nat → FieldType := fun k => match k with
  | 0 => .array (.object "PointAnswers$Bundle")
  | _ => .int
theorem nmX2 : ∀ a, a < 2 → ∀ b, b < 2 → a ≠ b → (TX2 a).2.1 ≠ (TX2 b).2.1 := by decide +kernel
theorem tyX2_ok : ∀ k, k < 2 → parseFieldDescriptor (TX2 k).2.2.1 = some (tyX2 k) := by decide +kernel
theorem inX2 : ∀ w ∈ u_ws RX2 TX2 2, w ∈ wT := by decide +kernel
def RX3 : String := "PointAnswers$Pad"
def TX3 : u_T := fun k => match k with
  | 0 => ("PointAnswers$Pad", "signs", "[C", true)
  | _ => ("PointAnswers$Pad", "length", "I", false)
def tyX3 : Nat → FieldType := fun k => match k with
  | 0 => .array .char
  | _ => .int
theorem nmX3 : ∀ a, a < 2 → ∀ b, b < 2 → a ≠ b → (TX3 a).2.1 ≠ (TX3 b).2.1 := by decide +kernel
theorem tyX3_ok : ∀ k, k < 2 → parseFieldDescriptor (TX3 k).2.2.1 = some (tyX3 k) := by decide +kernel
theorem inX3 : ∀ w ∈ u_ws RX3 TX3 2, w ∈ wT := by decide +kernel
def RX4 : String := "PointAnswers$Point"
def TX4 : u_T := fun k => match k with
  | 0 => ("PointAnswers$Point", "side", "I", false)
  | 1 => ("PointAnswers$Point", "pages", "I", false)
  | 2 => ("PointAnswers$Point", "cases", "I", false)
  | 3 => ("PointAnswers$Point", "target", "I", false)
  | 4 => ("PointAnswers$Point", "filed", "I", false)
  | 5 => ("PointAnswers$Point", "lastsFrom", "I", false)
  | _ => ("PointAnswers$Point", "withdrawn", "Z", false)
def tyX4 : Nat → FieldType := fun k => match k with
  | 0 => .int
  | 1 => .int
  | 2 => .int
  | 3 => .int
  | 4 => .int
  | 5 => .int
  | _ => .boolean
theorem nmX4 : ∀ a, a < 7 → ∀ b, b < 7 → a ≠ b → (TX4 a).2.1 ≠ (TX4 b).2.1 := by decide +kernel
theorem tyX4_ok : ∀ k, k < 7 → parseFieldDescriptor (TX4 k).2.2.1 = some (tyX4 k) := by decide +kernel
theorem inX4 : ∀ w ∈ u_ws RX4 TX4 7, w ∈ wT := by decide +kernel
def RX5 : String := "PointAnswers$Reader"
def TX5 : u_T := fun k => match k with
  | 0 => ("PointAnswers$Reader", "at", "I", false)
  | 1 => ("PointAnswers$Reader", "digit", "I", false)
  | 2 => ("PointAnswers$Reader", "kind", "C", false)
  | 3 => ("PointAnswers$Reader", "number", "I", false)
  | 4 => ("PointAnswers$Reader", "pages", "I", false)
  | _ => ("PointAnswers$Reader", "cases", "I", false)
def tyX5 : Nat → FieldType := fun k => match k with
  | 0 => .int
  | 1 => .int
  | 2 => .char
  | 3 => .int
  | 4 => .int
  | _ => .int
theorem nmX5 : ∀ a, a < 6 → ∀ b, b < 6 → a ≠ b → (TX5 a).2.1 ≠ (TX5 b).2.1 := by decide +kernel
theorem tyX5_ok : ∀ k, k < 6 → parseFieldDescriptor (TX5 k).2.2.1 = some (tyX5 k) := by decide +kernel
theorem inX5 : ∀ w ∈ u_ws RX5 TX5 6, w ∈ wT := by decide +kernel
def RX6 : String := "PointAnswers"
def TX6 : u_T := fun k => match k with
  | 0 => ("PointAnswers", "now", "LPointAnswers$Bundle;", true)
  | 1 => ("PointAnswers", "costs", "LPointAnswers$Costs;", true)
  | 2 => ("PointAnswers", "pad", "LPointAnswers$Pad;", true)
  | 3 => ("PointAnswers", "reader", "LPointAnswers$Reader;", true)
  | 4 => ("PointAnswers", "history", "LPointAnswers$History;", true)
  | 5 => ("PointAnswers", "slots", "[LPointAnswers$Bundle;", true)
  | _ => ("PointAnswers", "savedSlots", "I", false)
def tyX6 : Nat → FieldType := fun k => match k with
  | 0 => .object "PointAnswers$Bundle"
  | 1 => .object "PointAnswers$Costs"
  | 2 => .object "PointAnswers$Pad"
  | 3 => .object "PointAnswers$Reader"
  | 4 => .object "PointAnswers$History"
  | 5 => .array (.object "PointAnswers$Bundle")
  | _ => .int
theorem nmX6 : ∀ a, a < 7 → ∀ b, b < 7 → a ≠ b → (TX6 a).2.1 ≠ (TX6 b).2.1 := by decide +kernel
theorem tyX6_ok : ∀ k, k < 7 → parseFieldDescriptor (TX6 k).2.2.1 = some (tyX6 k) := by decide +kernel
theorem inX6 : ∀ w ∈ u_ws RX6 TX6 7, w ∈ wT := by decide +kernel
def RX7 : String := "PointAnswersModel"
def TX7 : u_T := fun k => match k with
  | 0 => ("PointAnswersModel", "z", "[I", true)
  | 1 => ("PointAnswersModel", "past", "[I", true)
  | 2 => ("PointAnswersModel", "slots", "[I", true)
  | 3 => ("PointAnswersModel", "isSaved", "[Z", true)
  | 4 => ("PointAnswersModel", "pastMany", "I", false)
  | 5 => ("PointAnswersModel", "pad", "[C", true)
  | 6 => ("PointAnswersModel", "typed", "I", false)
  | 7 => ("PointAnswersModel", "why", "[I", true)
  | 8 => ("PointAnswersModel", "taken", "[I", true)
  | 9 => ("PointAnswersModel", "stands", "[I", true)
  | 10 => ("PointAnswersModel", "falls", "[I", true)
  | 11 => ("PointAnswersModel", "orders", "[I", true)
  | 12 => ("PointAnswersModel", "orderMany", "I", false)
  | 13 => ("PointAnswersModel", "spot", "I", false)
  | _ => ("PointAnswersModel", "wrong", "I", false)
def tyX7 : Nat → FieldType := fun k => match k with
  | 0 => .array .int
  | 1 => .array .int
  | 2 => .array .int
  | 3 => .array .boolean
  | 4 => .int
  | 5 => .array .char
  | 6 => .int
  | 7 => .array .int
  | 8 => .array .int
  | 9 => .array .int
  | 10 => .array .int
  | 11 => .array .int
  | 12 => .int
  | 13 => .int
  | _ => .int
theorem nmX7 : ∀ a, a < 15 → ∀ b, b < 15 → a ≠ b → (TX7 a).2.1 ≠ (TX7 b).2.1 := by decide +kernel
theorem tyX7_ok : ∀ k, k < 15 → parseFieldDescriptor (TX7 k).2.2.1 = some (tyX7 k) := by decide +kernel
theorem inX7 : ∀ w ∈ u_ws RX7 TX7 15, w ∈ wT := by decide +kernel
abbrev vwCl : List vw_C := [(RX0, TX0, 6), (RX1, TX1, 2), (RX2, TX2, 2), (RX3, TX3, 2), (RX4, TX4, 7), (RX5, TX5, 6), (RX6, TX6, 7), (RX7, TX7, 15)]
abbrev cX4_init : ByteArray := prog_6_method_1_code
def yX4_init : MethodName := ⟨"PointAnswers$Point", "<init>", "()V"⟩
def iX4_init : List (Nat × Instr × Nat) := [(0, .aload_n 0, 1), (1, .invokespecial 1, 3), (4, .return_, 1)]
theorem dX4_init : iX4_init.all (fun q => decide (decode cX4_init q.1 = .ok q.2)) = true := by decide +kernel
abbrev wsX4_init : List Cond := .code yX4_init cX4_init 1 none :: wT
abbrev cX0_init : ByteArray := prog_2_method_1_code
def yX0_init : MethodName := ⟨"PointAnswers$Bundle", "<init>", "()V"⟩
def iX0_init : List (Nat × Instr × Nat) := [(0, .aload_n 0, 1), (1, .invokespecial 3, 3), (4, .aload_n 0, 1), (5, .bipush 24, 2), (7, .anewarray 9, 3), (10, .putfield 11, 3), (13, .aload_n 0, 1), (14, .bipush 14, 2), (16, .putfield 17, 3), (19, .aload_n 0, 1), (20, .bipush 30, 2), (22, .putfield 21, 3), (25, .iconst 0, 1), (26, .istore_n 1, 1), (27, .iload_n 1, 1), (28, .aload_n 0, 1), (29, .getfield 11, 3), (32, .arraylength, 1), (33, .if_icmp .ge 22, 3), (36, .aload_n 0, 1), (37, .getfield 11, 3), (40, .iload_n 1, 1), (41, .new 9, 3), (44, .dup, 1), (45, .invokespecial 24, 3), (48, .aastore, 1), (49, .iinc 1 1, 3), (52, .goto (-25), 3), (55, .return_, 1)]
theorem dX0_init : iX0_init.all (fun q => decide (decode cX0_init q.1 = .ok q.2)) = true := by decide +kernel
abbrev wsX0_init : List Cond := .code yX0_init cX0_init 2 none :: wT
abbrev cX0_find : ByteArray := prog_2_method_3_code
def yX0_find : MethodName := ⟨"PointAnswers$Bundle", "find", "(I)LPointAnswers$Point;"⟩
def iX0_find : List (Nat × Instr × Nat) := [(0, .iload_n 1, 1), (1, .ifCond .lt 29, 3), (4, .iload_n 1, 1), (5, .aload_n 0, 1), (6, .getfield 25, 3), (9, .if_icmp .ge 21, 3), (12, .iload_n 1, 1), (13, .aload_n 0, 1), (14, .getfield 11, 3), (17, .arraylength, 1), (18, .if_icmp .ge 12, 3), (21, .aload_n 0, 1), (22, .getfield 11, 3), (25, .iload_n 1, 1), (26, .aaload, 1), (27, .goto 4, 3), (30, .aconst_null, 1), (31, .areturn, 1)]
theorem dX0_find : iX0_find.all (fun q => decide (decode cX0_find q.1 = .ok q.2)) = true := by decide +kernel
abbrev wsX0_find : List Cond := .code yX0_find cX0_find 2 (some (.object "PointAnswers$Point")) :: wT
abbrev cX4_become : ByteArray := prog_6_method_2_code
def yX4_become : MethodName := ⟨"PointAnswers$Point", "become", "(LPointAnswers$Point;)V"⟩
def iX4_become : List (Nat × Instr × Nat) := [(0, .aload_n 0, 1), (1, .aload_n 1, 1), (2, .getfield 7, 3), (5, .putfield 7, 3), (8, .aload_n 0, 1), (9, .aload_n 1, 1), (10, .getfield 13, 3), (13, .putfield 13, 3), (16, .aload_n 0, 1), (17, .aload_n 1, 1), (18, .getfield 16, 3), (21, .putfield 16, 3), (24, .aload_n 0, 1), (25, .aload_n 1, 1), (26, .getfield 19, 3), (29, .putfield 19, 3), (32, .aload_n 0, 1), (33, .aload_n 1, 1), (34, .getfield 22, 3), (37, .putfield 22, 3), (40, .aload_n 0, 1), (41, .aload_n 1, 1), (42, .getfield 25, 3), (45, .putfield 25, 3), (48, .aload_n 0, 1), (49, .aload_n 1, 1), (50, .getfield 28, 3), (53, .putfield 28, 3), (56, .return_, 1)]
theorem dX4_become : iX4_become.all (fun q => decide (decode cX4_become q.1 = .ok q.2)) = true := by decide +kernel
abbrev wsX4_become : List Cond := .code yX4_become cX4_become 2 none :: wT
abbrev cX0_become : ByteArray := prog_2_method_2_code
def yX0_become : MethodName := ⟨"PointAnswers$Bundle", "become", "(LPointAnswers$Bundle;)V"⟩
def iX0_become : List (Nat × Instr × Nat) := [(0, .aload_n 0, 1), (1, .aload_n 1, 1), (2, .getfield 25, 3), (5, .putfield 25, 3), (8, .aload_n 0, 1), (9, .aload_n 1, 1), (10, .getfield 28, 3), (13, .putfield 28, 3), (16, .aload_n 0, 1), (17, .aload_n 1, 1), (18, .getfield 31, 3), (21, .putfield 31, 3), (24, .aload_n 0, 1), (25, .aload_n 1, 1), (26, .getfield 17, 3), (29, .putfield 17, 3), (32, .aload_n 0, 1), (33, .aload_n 1, 1), (34, .getfield 21, 3), (37, .putfield 21, 3), (40, .iconst 0, 1), (41, .istore_n 2, 1), (42, .iload_n 2, 1), (43, .aload_n 0, 1), (44, .getfield 11, 3), (47, .arraylength, 1), (48, .if_icmp .ge 46, 3), (51, .iload_n 2, 1), (52, .aload_n 0, 1), (53, .getfield 25, 3), (56, .if_icmp .ge 38, 3), (59, .aload_n 0, 1), (60, .getfield 11, 3), (63, .iload_n 2, 1), (64, .aaload, 1), (65, .astore_n 3, 1), (66, .aload_n 1, 1), (67, .iload_n 2, 1), (68, .invokevirtual 34, 3), (71, .astore 4, 2), (73, .aload_n 3, 1), (74, .ifnull 14, 3), (77, .aload 4, 2), (79, .ifnull 9, 3), (82, .aload_n 3, 1), (83, .aload 4, 2), (85, .invokevirtual 38, 3), (88, .iinc 2 1, 3), (91, .goto (-49), 3), (94, .return_, 1)]
theorem dX0_become : iX0_become.all (fun q => decide (decode cX0_become q.1 = .ok q.2)) = true := by decide +kernel
abbrev wsX0_become : List Cond := .code yX0_become cX0_become 5 none :: wT
abbrev cX0_freeRow : ByteArray := prog_2_method_4_code
def yX0_freeRow : MethodName := ⟨"PointAnswers$Bundle", "freeRow", "()LPointAnswers$Point;"⟩
def iX0_freeRow : List (Nat × Instr × Nat) := [(0, .aload_n 0, 1), (1, .getfield 25, 3), (4, .ifCond .lt 27, 3), (7, .aload_n 0, 1), (8, .getfield 25, 3), (11, .aload_n 0, 1), (12, .getfield 11, 3), (15, .arraylength, 1), (16, .if_icmp .ge 15, 3), (19, .aload_n 0, 1), (20, .getfield 11, 3), (23, .aload_n 0, 1), (24, .getfield 25, 3), (27, .aaload, 1), (28, .goto 4, 3), (31, .aconst_null, 1), (32, .areturn, 1)]
theorem dX0_freeRow : iX0_freeRow.all (fun q => decide (decode cX0_freeRow q.1 = .ok q.2)) = true := by decide +kernel
abbrev wsX0_freeRow : List Cond := .code yX0_freeRow cX0_freeRow 1 (some (.object "PointAnswers$Point")) :: wT
abbrev cX0_adjust : ByteArray := prog_2_method_5_code
def yX0_adjust : MethodName := ⟨"PointAnswers$Bundle", "adjust", "(II)I"⟩
def iX0_adjust : List (Nat × Instr × Nat) := [(0, .bipush (-2), 2), (2, .istore_n 3, 1), (3, .iload_n 1, 1), (4, .ifCond .ne 24, 3), (7, .iload_n 2, 1), (8, .iconst 1, 1), (9, .if_icmp .lt 19, 3), (12, .iload_n 2, 1), (13, .bipush 60, 2), (15, .if_icmp .gt 13, 3), (18, .aload_n 0, 1), (19, .getfield 17, 3), (22, .istore_n 3, 1), (23, .aload_n 0, 1), (24, .iload_n 2, 1), (25, .putfield 17, 3), (28, .iload_n 1, 1), (29, .iconst 1, 1), (30, .if_icmp .ne 24, 3), (33, .iload_n 2, 1), (34, .iconst 1, 1), (35, .if_icmp .lt 19, 3), (38, .iload_n 2, 1), (39, .bipush 99, 2), (41, .if_icmp .gt 13, 3), (44, .aload_n 0, 1), (45, .getfield 21, 3), (48, .istore_n 3, 1), (49, .aload_n 0, 1), (50, .iload_n 2, 1), (51, .putfield 21, 3), (54, .iload_n 3, 1), (55, .ireturn, 1)]
theorem dX0_adjust : iX0_adjust.all (fun q => decide (decode cX0_adjust q.1 = .ok q.2)) = true := by decide +kernel
abbrev wsX0_adjust : List Cond := .code yX0_adjust cX0_adjust 4 (some .int) :: wT
abbrev cX0_canBeFiled : ByteArray := prog_2_method_8_code
def yX0_canBeFiled : MethodName := ⟨"PointAnswers$Bundle", "canBeFiled", "(II)Z"⟩
def iX0_canBeFiled : List (Nat × Instr × Nat) := [(0, .iload_n 0, 1), (1, .iconst 1, 1), (2, .if_icmp .lt 24, 3), (5, .iload_n 0, 1), (6, .bipush 9, 2), (8, .if_icmp .gt 18, 3), (11, .iload_n 1, 1), (12, .ifCond .lt 14, 3), (15, .iload_n 1, 1), (16, .sipush 1023, 3), (19, .if_icmp .gt 7, 3), (22, .iconst 1, 1), (23, .goto 4, 3), (26, .iconst 0, 1), (27, .ireturn, 1)]
theorem dX0_canBeFiled : iX0_canBeFiled.all (fun q => decide (decode cX0_canBeFiled q.1 = .ok q.2)) = true := by decide +kernel
abbrev wsX0_canBeFiled : List Cond := .code yX0_canBeFiled cX0_canBeFiled 2 (some .boolean) :: wT
abbrev cX0_file : ByteArray := prog_2_method_9_code
def yX0_file : MethodName := ⟨"PointAnswers$Bundle", "file", "(IIII)I"⟩
def iX0_file : List (Nat × Instr × Nat) := [(0, .aload_n 0, 1), (1, .invokevirtual 50, 3), (4, .astore 5, 2), (6, .aload 5, 2), (8, .ifnonnull 6, 3), (11, .bipush (-4), 2), (13, .ireturn, 1), (14, .aload 5, 2), (16, .iload_n 1, 1), (17, .putfield 58, 3), (20, .aload 5, 2), (22, .iload_n 2, 1), (23, .putfield 61, 3), (26, .aload 5, 2), (28, .iload_n 3, 1), (29, .putfield 64, 3), (32, .aload 5, 2), (34, .iload 4, 2), (36, .putfield 67, 3), (39, .aload 5, 2), (41, .aload_n 0, 1), (42, .getfield 28, 3), (45, .putfield 70, 3), (48, .aload 5, 2), (50, .aload_n 0, 1), (51, .getfield 28, 3), (54, .putfield 73, 3), (57, .aload 5, 2), (59, .iconst 0, 1), (60, .putfield 54, 3), (63, .aload_n 0, 1), (64, .dup, 1), (65, .getfield 25, 3), (68, .iconst 1, 1), (69, .iadd, 1), (70, .putfield 25, 3), (73, .aload_n 0, 1), (74, .getfield 25, 3), (77, .iconst 1, 1), (78, .isub, 1), (79, .ireturn, 1)]
theorem dX0_file : iX0_file.all (fun q => decide (decode cX0_file q.1 = .ok q.2)) = true := by decide +kernel
abbrev wsX0_file : List Cond := .code yX0_file cX0_file 6 (some .int) :: wT
abbrev cX0_fileClaim : ByteArray := prog_2_method_6_code
def yX0_fileClaim : MethodName := ⟨"PointAnswers$Bundle", "fileClaim", "(III)I"⟩
def iX0_fileClaim : List (Nat × Instr × Nat) := [(0, .iload_n 1, 1), (1, .ifCond .lt 16, 3), (4, .iload_n 1, 1), (5, .iconst 1, 1), (6, .if_icmp .gt 11, 3), (9, .iload_n 2, 1), (10, .iload_n 3, 1), (11, .invokestatic 42, 3), (14, .ifCond .ne 6, 3), (17, .bipush (-2), 2), (19, .ireturn, 1), (20, .aload_n 0, 1), (21, .iload_n 1, 1), (22, .iload_n 2, 1), (23, .iload_n 3, 1), (24, .bipush (-6), 2), (26, .invokevirtual 46, 3), (29, .ireturn, 1)]
theorem dX0_fileClaim : iX0_fileClaim.all (fun q => decide (decode cX0_fileClaim q.1 = .ok q.2)) = true := by decide +kernel
abbrev wsX0_fileClaim : List Cond := .code yX0_fileClaim cX0_fileClaim 4 (some .int) :: wT
abbrev cX0_fileAnswer : ByteArray := prog_2_method_7_code
def yX0_fileAnswer : MethodName := ⟨"PointAnswers$Bundle", "fileAnswer", "(III)I"⟩
def iX0_fileAnswer : List (Nat × Instr × Nat) := [(0, .aload_n 0, 1), (1, .iload_n 1, 1), (2, .invokevirtual 34, 3), (5, .astore 4, 2), (7, .aload 4, 2), (9, .ifnonnull 5, 3), (12, .iconst (-1), 1), (13, .ireturn, 1), (14, .iload_n 2, 1), (15, .iload_n 3, 1), (16, .invokestatic 42, 3), (19, .ifCond .ne 6, 3), (22, .bipush (-2), 2), (24, .ireturn, 1), (25, .aload_n 0, 1), (26, .invokevirtual 50, 3), (29, .ifnonnull 6, 3), (32, .bipush (-4), 2), (34, .ireturn, 1), (35, .aload 4, 2), (37, .getfield 54, 3), (40, .ifCond .eq 6, 3), (43, .bipush (-5), 2), (45, .ireturn, 1), (46, .aload_n 0, 1), (47, .iconst 1, 1), (48, .aload 4, 2), (50, .getfield 58, 3), (53, .isub, 1), (54, .iload_n 2, 1), (55, .iload_n 3, 1), (56, .iload_n 1, 1), (57, .invokevirtual 46, 3), (60, .ireturn, 1)]
theorem dX0_fileAnswer : iX0_fileAnswer.all (fun q => decide (decode cX0_fileAnswer q.1 = .ok q.2)) = true := by decide +kernel
abbrev wsX0_fileAnswer : List Cond := .code yX0_fileAnswer cX0_fileAnswer 5 (some .int) :: wT
abbrev cX0_withdrawn : ByteArray := prog_2_method_20_code
def yX0_withdrawn : MethodName := ⟨"PointAnswers$Bundle", "withdrawn", "()I"⟩
def iX0_withdrawn : List (Nat × Instr × Nat) := [(0, .iconst 0, 1), (1, .istore_n 1, 1), (2, .iconst 0, 1), (3, .istore_n 2, 1), (4, .iload_n 2, 1), (5, .aload_n 0, 1), (6, .getfield 25, 3), (9, .if_icmp .ge 32, 3), (12, .aload_n 0, 1), (13, .iload_n 2, 1), (14, .invokevirtual 34, 3), (17, .astore_n 3, 1), (18, .aload_n 3, 1), (19, .ifnull 16, 3), (22, .aload_n 3, 1), (23, .getfield 54, 3), (26, .ifCond .eq 9, 3), (29, .iload_n 1, 1), (30, .iconst 1, 1), (31, .iload_n 2, 1), (32, .ishl, 1), (33, .ior, 1), (34, .istore_n 1, 1), (35, .iinc 2 1, 3), (38, .goto (-34), 3), (41, .iload_n 1, 1), (42, .ireturn, 1)]
theorem dX0_withdrawn : iX0_withdrawn.all (fun q => decide (decode cX0_withdrawn q.1 = .ok q.2)) = true := by decide +kernel
abbrev wsX0_withdrawn : List Cond := .code yX0_withdrawn cX0_withdrawn 4 (some .int) :: wT
abbrev cX0_struck : ByteArray := prog_2_method_21_code
def yX0_struck : MethodName := ⟨"PointAnswers$Bundle", "struck", "()I"⟩
def iX0_struck : List (Nat × Instr × Nat) := [(0, .iconst 0, 1), (1, .istore_n 1, 1), (2, .iconst 0, 1), (3, .istore_n 2, 1), (4, .iload_n 2, 1), (5, .iconst 1, 1), (6, .if_icmp .gt 94, 3), (9, .iconst 0, 1), (10, .istore_n 3, 1), (11, .iconst 0, 1), (12, .istore 4, 2), (14, .iload 4, 2), (16, .aload_n 0, 1), (17, .getfield 25, 3), (20, .if_icmp .ge 74, 3), (23, .aload_n 0, 1), (24, .iload 4, 2), (26, .invokevirtual 34, 3), (29, .astore 5, 2), (31, .aload 5, 2), (33, .ifnull 55, 3), (36, .aload 5, 2), (38, .getfield 58, 3), (41, .iload_n 2, 1), (42, .if_icmp .ne 46, 3), (45, .aload 5, 2), (47, .getfield 54, 3), (50, .ifCond .eq 6, 3), (53, .goto 35, 3), (56, .iload_n 3, 1), (57, .aload 5, 2), (59, .getfield 61, 3), (62, .iadd, 1), (63, .aload_n 0, 1), (64, .getfield 21, 3), (67, .if_icmp .le 13, 3), (70, .iload_n 1, 1), (71, .iconst 1, 1), (72, .iload 4, 2), (74, .ishl, 1), (75, .ior, 1), (76, .istore_n 1, 1), (77, .goto 11, 3), (80, .iload_n 3, 1), (81, .aload 5, 2), (83, .getfield 61, 3), (86, .iadd, 1), (87, .istore_n 3, 1), (88, .iinc 4 1, 3), (91, .goto (-77), 3), (94, .iinc 2 1, 3), (97, .goto (-93), 3), (100, .iload_n 1, 1), (101, .ireturn, 1)]
theorem dX0_struck : iX0_struck.all (fun q => decide (decode cX0_struck q.1 = .ok q.2)) = true := by decide +kernel
abbrev wsX0_struck : List Cond := .code yX0_struck cX0_struck 6 (some .int) :: wT
abbrev cX0_lapsedOn : ByteArray := prog_2_method_22_code
def yX0_lapsedOn : MethodName := ⟨"PointAnswers$Bundle", "lapsedOn", "(I)I"⟩
def iX0_lapsedOn : List (Nat × Instr × Nat) := [(0, .iconst 0, 1), (1, .istore_n 2, 1), (2, .iconst 0, 1), (3, .istore_n 3, 1), (4, .iload_n 3, 1), (5, .aload_n 0, 1), (6, .getfield 25, 3), (9, .if_icmp .ge 51, 3), (12, .aload_n 0, 1), (13, .iload_n 3, 1), (14, .invokevirtual 34, 3), (17, .astore 4, 2), (19, .aload 4, 2), (21, .ifnull 33, 3), (24, .aload 4, 2), (26, .getfield 67, 3), (29, .bipush (-6), 2), (31, .if_icmp .eq 23, 3), (34, .iload_n 1, 1), (35, .aload 4, 2), (37, .getfield 73, 3), (40, .isub, 1), (41, .aload_n 0, 1), (42, .getfield 17, 3), (45, .if_icmp .le 9, 3), (48, .iload_n 2, 1), (49, .iconst 1, 1), (50, .iload_n 3, 1), (51, .ishl, 1), (52, .ior, 1), (53, .istore_n 2, 1), (54, .iinc 3 1, 3), (57, .goto (-53), 3), (60, .iload_n 2, 1), (61, .ireturn, 1)]
theorem dX0_lapsedOn : iX0_lapsedOn.all (fun q => decide (decode cX0_lapsedOn q.1 = .ok q.2)) = true := by decide +kernel
abbrev wsX0_lapsedOn : List Cond := .code yX0_lapsedOn cX0_lapsedOn 5 (some .int) :: wT
abbrev cX0_baseless : ByteArray := prog_2_method_23_code
def yX0_baseless : MethodName := ⟨"PointAnswers$Bundle", "baseless", "()I"⟩
def iX0_baseless : List (Nat × Instr × Nat) := [(0, .iconst 0, 1), (1, .istore_n 1, 1), (2, .iconst 0, 1), (3, .istore_n 2, 1), (4, .iload_n 2, 1), (5, .aload_n 0, 1), (6, .getfield 25, 3), (9, .if_icmp .ge 46, 3), (12, .aload_n 0, 1), (13, .iload_n 2, 1), (14, .invokevirtual 34, 3), (17, .astore_n 3, 1), (18, .aload_n 3, 1), (19, .ifnull 30, 3), (22, .aload_n 3, 1), (23, .getfield 64, 3), (26, .ifCond .eq 23, 3), (29, .aload_n 3, 1), (30, .getfield 64, 3), (33, .aload_n 0, 1), (34, .getfield 31, 3), (37, .iconst (-1), 1), (38, .ixor, 1), (39, .iand, 1), (40, .ifCond .ne 9, 3), (43, .iload_n 1, 1), (44, .iconst 1, 1), (45, .iload_n 2, 1), (46, .ishl, 1), (47, .ior, 1), (48, .istore_n 1, 1), (49, .iinc 2 1, 3), (52, .goto (-48), 3), (55, .iload_n 1, 1), (56, .ireturn, 1)]
theorem dX0_baseless : iX0_baseless.all (fun q => decide (decode cX0_baseless q.1 = .ok q.2)) = true := by decide +kernel
abbrev wsX0_baseless : List Cond := .code yX0_baseless cX0_baseless 4 (some .int) :: wT
abbrev cX0_out : ByteArray := prog_2_method_24_code
def yX0_out : MethodName := ⟨"PointAnswers$Bundle", "out", "()I"⟩
def iX0_out : List (Nat × Instr × Nat) := [(0, .aload_n 0, 1), (1, .invokevirtual 98, 3), (4, .aload_n 0, 1), (5, .invokevirtual 100, 3), (8, .ior, 1), (9, .aload_n 0, 1), (10, .aload_n 0, 1), (11, .getfield 28, 3), (14, .invokevirtual 103, 3), (17, .ior, 1), (18, .aload_n 0, 1), (19, .invokevirtual 106, 3), (22, .ior, 1), (23, .ireturn, 1)]
theorem dX0_out : iX0_out.all (fun q => decide (decode cX0_out q.1 = .ok q.2)) = true := by decide +kernel
abbrev wsX0_out : List Cond := .code yX0_out cX0_out 1 (some .int) :: wT
abbrev cX6_has : ByteArray := prog_1_method_27_code
def yX6_has : MethodName := ⟨"PointAnswers", "has", "(II)Z"⟩
def iX6_has : List (Nat × Instr × Nat) := [(0, .iload_n 0, 1), (1, .iload_n 1, 1), (2, .iushr, 1), (3, .iconst 1, 1), (4, .iand, 1), (5, .iconst 1, 1), (6, .if_icmp .ne 7, 3), (9, .iconst 1, 1), (10, .goto 4, 3), (13, .iconst 0, 1), (14, .ireturn, 1)]
theorem dX6_has : iX6_has.all (fun q => decide (decode cX6_has q.1 = .ok q.2)) = true := by decide +kernel
abbrev wsX6_has : List Cond := .code yX6_has cX6_has 2 (some .boolean) :: wT
abbrev cX0_targetOf : ByteArray := prog_2_method_18_code
def yX0_targetOf : MethodName := ⟨"PointAnswers$Bundle", "targetOf", "(I)I"⟩
def iX0_targetOf : List (Nat × Instr × Nat) := [(0, .aload_n 0, 1), (1, .iload_n 1, 1), (2, .invokevirtual 34, 3), (5, .astore_n 2, 1), (6, .aload_n 2, 1), (7, .ifnull 12, 3), (10, .aload_n 2, 1), (11, .getfield 67, 3), (14, .bipush (-6), 2), (16, .if_icmp .ne 7, 3), (19, .iconst 0, 1), (20, .goto 9, 3), (23, .iconst 1, 1), (24, .aload_n 2, 1), (25, .getfield 67, 3), (28, .ishl, 1), (29, .ireturn, 1)]
theorem dX0_targetOf : iX0_targetOf.all (fun q => decide (decode cX0_targetOf q.1 = .ok q.2)) = true := by decide +kernel
abbrev wsX0_targetOf : List Cond := .code yX0_targetOf cX0_targetOf 3 (some .int) :: wT
abbrev cX0_standingIf : ByteArray := prog_2_method_27_code
def yX0_standingIf : MethodName := ⟨"PointAnswers$Bundle", "standingIf", "(II)I"⟩
def iX0_standingIf : List (Nat × Instr × Nat) := [(0, .iload_n 2, 1), (1, .istore_n 3, 1), (2, .iconst 0, 1), (3, .istore 4, 2), (5, .aload_n 0, 1), (6, .getfield 25, 3), (9, .iconst 1, 1), (10, .isub, 1), (11, .istore 5, 2), (13, .iload 5, 2), (15, .ifCond .lt 38, 3), (18, .iload_n 1, 1), (19, .iload_n 3, 1), (20, .ior, 1), (21, .iload 5, 2), (23, .invokestatic 86, 3), (26, .ifCond .ne 21, 3), (29, .iload 4, 2), (31, .iconst 1, 1), (32, .iload 5, 2), (34, .ishl, 1), (35, .ior, 1), (36, .istore 4, 2), (38, .iload_n 3, 1), (39, .aload_n 0, 1), (40, .iload 5, 2), (42, .invokevirtual 95, 3), (45, .ior, 1), (46, .istore_n 3, 1), (47, .iinc 5 (-1), 3), (50, .goto (-37), 3), (53, .iload 4, 2), (55, .ireturn, 1)]
theorem dX0_standingIf : iX0_standingIf.all (fun q => decide (decode cX0_standingIf q.1 = .ok q.2)) = true := by decide +kernel
abbrev wsX0_standingIf : List Cond := .code yX0_standingIf cX0_standingIf 6 (some .int) :: wT
abbrev cX0_standing : ByteArray := prog_2_method_25_code
def yX0_standing : MethodName := ⟨"PointAnswers$Bundle", "standing", "()I"⟩
def iX0_standing : List (Nat × Instr × Nat) := [(0, .aload_n 0, 1), (1, .aload_n 0, 1), (2, .invokevirtual 109, 3), (5, .iconst 0, 1), (6, .invokevirtual 112, 3), (9, .ireturn, 1)]
theorem dX0_standing : iX0_standing.all (fun q => decide (decode cX0_standing q.1 = .ok q.2)) = true := by decide +kernel
abbrev wsX0_standing : List Cond := .code yX0_standing cX0_standing 1 (some .int) :: wT
abbrev cJ6_bitCount_0f7a4 : ByteArray := prog_10_method_49_code
def yJ6_bitCount_0f7a4 : MethodName := ⟨"java/lang/Integer", "bitCount", "(I)I"⟩
def iJ6_bitCount_0f7a4 : List (Nat × Instr × Nat) := [(0, .iload_n 0, 1), (1, .iload_n 0, 1), (2, .iconst 1, 1), (3, .iushr, 1), (4, .ldc_w 265, 3), (7, .iand, 1), (8, .isub, 1), (9, .istore_n 0, 1), (10, .iload_n 0, 1), (11, .ldc_w 266, 3), (14, .iand, 1), (15, .iload_n 0, 1), (16, .iconst 2, 1), (17, .iushr, 1), (18, .ldc_w 266, 3), (21, .iand, 1), (22, .iadd, 1), (23, .istore_n 0, 1), (24, .iload_n 0, 1), (25, .iload_n 0, 1), (26, .iconst 4, 1), (27, .iushr, 1), (28, .iadd, 1), (29, .ldc_w 267, 3), (32, .iand, 1), (33, .istore_n 0, 1), (34, .iload_n 0, 1), (35, .iload_n 0, 1), (36, .bipush 8, 2), (38, .iushr, 1), (39, .iadd, 1), (40, .istore_n 0, 1), (41, .iload_n 0, 1), (42, .iload_n 0, 1), (43, .bipush 16, 2), (45, .iushr, 1), (46, .iadd, 1), (47, .istore_n 0, 1), (48, .iload_n 0, 1), (49, .bipush 63, 2), (51, .iand, 1), (52, .ireturn, 1)]
theorem dJ6_bitCount_0f7a4 : iJ6_bitCount_0f7a4.all (fun q => decide (decode cJ6_bitCount_0f7a4 q.1 = .ok q.2)) = true := by decide +kernel
abbrev wsJ6_bitCount_0f7a4 : List Cond := .code yJ6_bitCount_0f7a4 cJ6_bitCount_0f7a4 1 (some .int) :: wT
abbrev cX0_takeBack : ByteArray := prog_2_method_10_code
def yX0_takeBack : MethodName := ⟨"PointAnswers$Bundle", "takeBack", "(I)I"⟩
def iX0_takeBack : List (Nat × Instr × Nat) := [(0, .aload_n 0, 1), (1, .iload_n 1, 1), (2, .invokevirtual 34, 3), (5, .astore_n 2, 1), (6, .aload_n 2, 1), (7, .ifnonnull 5, 3), (10, .iconst (-1), 1), (11, .ireturn, 1), (12, .aload_n 2, 1), (13, .getfield 54, 3), (16, .ifCond .eq 6, 3), (19, .bipush (-5), 2), (21, .ireturn, 1), (22, .aload_n 2, 1), (23, .iconst 1, 1), (24, .putfield 54, 3), (27, .aload_n 0, 1), (28, .invokevirtual 76, 3), (31, .invokestatic 80, 3), (34, .ireturn, 1)]
theorem dX0_takeBack : iX0_takeBack.all (fun q => decide (decode cX0_takeBack q.1 = .ok q.2)) = true := by decide +kernel
abbrev wsX0_takeBack : List Cond := .code yX0_takeBack cX0_takeBack 3 (some .int) :: wT
abbrev cX0_prolong : ByteArray := prog_2_method_11_code
def yX0_prolong : MethodName := ⟨"PointAnswers$Bundle", "prolong", "(I)I"⟩
def iX0_prolong : List (Nat × Instr × Nat) := [(0, .aload_n 0, 1), (1, .iload_n 1, 1), (2, .invokevirtual 34, 3), (5, .astore_n 2, 1), (6, .aload_n 2, 1), (7, .ifnonnull 5, 3), (10, .iconst (-1), 1), (11, .ireturn, 1), (12, .aload_n 2, 1), (13, .getfield 67, 3), (16, .bipush (-6), 2), (18, .if_icmp .eq 10, 3), (21, .aload_n 2, 1), (22, .getfield 54, 3), (25, .ifCond .eq 6, 3), (28, .bipush (-5), 2), (30, .ireturn, 1), (31, .aload_n 0, 1), (32, .getfield 28, 3), (35, .aload_n 2, 1), (36, .getfield 73, 3), (39, .isub, 1), (40, .istore_n 3, 1), (41, .aload_n 2, 1), (42, .aload_n 0, 1), (43, .getfield 28, 3), (46, .putfield 73, 3), (49, .iload_n 3, 1), (50, .ireturn, 1)]
theorem dX0_prolong : iX0_prolong.all (fun q => decide (decode cX0_prolong q.1 = .ok q.2)) = true := by decide +kernel
abbrev wsX0_prolong : List Cond := .code yX0_prolong cX0_prolong 4 (some .int) :: wT
abbrev cX0_turnCase : ByteArray := prog_2_method_12_code
def yX0_turnCase : MethodName := ⟨"PointAnswers$Bundle", "turnCase", "(I)I"⟩
def iX0_turnCase : List (Nat × Instr × Nat) := [(0, .iload_n 1, 1), (1, .ifCond .lt 9, 3), (4, .iload_n 1, 1), (5, .bipush 10, 2), (7, .if_icmp .lt 5, 3), (10, .iconst (-1), 1), (11, .ireturn, 1), (12, .aload_n 0, 1), (13, .dup, 1), (14, .getfield 31, 3), (17, .iconst 1, 1), (18, .iload_n 1, 1), (19, .ishl, 1), (20, .ixor, 1), (21, .putfield 31, 3), (24, .aload_n 0, 1), (25, .getfield 31, 3), (28, .iload_n 1, 1), (29, .invokestatic 86, 3), (32, .ifCond .eq 7, 3), (35, .iconst 1, 1), (36, .goto 4, 3), (39, .iconst 0, 1), (40, .ireturn, 1)]
theorem dX0_turnCase : iX0_turnCase.all (fun q => decide (decode cX0_turnCase q.1 = .ok q.2)) = true := by decide +kernel
abbrev wsX0_turnCase : List Cond := .code yX0_turnCase cX0_turnCase 2 (some .int) :: wT
abbrev cX0_moveOn : ByteArray := prog_2_method_13_code
def yX0_moveOn : MethodName := ⟨"PointAnswers$Bundle", "moveOn", "(I)I"⟩
def iX0_moveOn : List (Nat × Instr × Nat) := [(0, .iload_n 1, 1), (1, .iconst 1, 1), (2, .if_icmp .lt 9, 3), (5, .iload_n 1, 1), (6, .bipush 99, 2), (8, .if_icmp .le 6, 3), (11, .bipush (-2), 2), (13, .ireturn, 1), (14, .aload_n 0, 1), (15, .getfield 28, 3), (18, .iload_n 1, 1), (19, .iadd, 1), (20, .sipush 999, 3), (23, .if_icmp .le 6, 3), (26, .bipush (-5), 2), (28, .ireturn, 1), (29, .aload_n 0, 1), (30, .dup, 1), (31, .getfield 28, 3), (34, .iload_n 1, 1), (35, .iadd, 1), (36, .putfield 28, 3), (39, .aload_n 0, 1), (40, .invokevirtual 76, 3), (43, .invokestatic 80, 3), (46, .ireturn, 1)]
theorem dX0_moveOn : iX0_moveOn.all (fun q => decide (decode cX0_moveOn q.1 = .ok q.2)) = true := by decide +kernel
abbrev wsX0_moveOn : List Cond := .code yX0_moveOn cX0_moveOn 2 (some .int) :: wT
abbrev cX0_all : ByteArray := prog_2_method_14_code
def yX0_all : MethodName := ⟨"PointAnswers$Bundle", "all", "()I"⟩
def iX0_all : List (Nat × Instr × Nat) := [(0, .iconst 1, 1), (1, .aload_n 0, 1), (2, .getfield 25, 3), (5, .ishl, 1), (6, .iconst 1, 1), (7, .isub, 1), (8, .ireturn, 1)]
theorem dX0_all : iX0_all.all (fun q => decide (decode cX0_all q.1 = .ok q.2)) = true := by decide +kernel
abbrev wsX0_all : List Cond := .code yX0_all cX0_all 1 (some .int) :: wT
abbrev cX0_answersTo : ByteArray := prog_2_method_16_code
def yX0_answersTo : MethodName := ⟨"PointAnswers$Bundle", "answersTo", "(I)I"⟩
def iX0_answersTo : List (Nat × Instr × Nat) := [(0, .iconst 0, 1), (1, .istore_n 2, 1), (2, .iconst 0, 1), (3, .istore_n 3, 1), (4, .iload_n 3, 1), (5, .aload_n 0, 1), (6, .getfield 25, 3), (9, .if_icmp .ge 36, 3), (12, .aload_n 0, 1), (13, .iload_n 3, 1), (14, .invokevirtual 34, 3), (17, .astore 4, 2), (19, .aload 4, 2), (21, .ifnull 18, 3), (24, .aload 4, 2), (26, .getfield 67, 3), (29, .iload_n 1, 1), (30, .if_icmp .ne 9, 3), (33, .iload_n 2, 1), (34, .iconst 1, 1), (35, .iload_n 3, 1), (36, .ishl, 1), (37, .ior, 1), (38, .istore_n 2, 1), (39, .iinc 3 1, 3), (42, .goto (-38), 3), (45, .iload_n 2, 1), (46, .ireturn, 1)]
theorem dX0_answersTo : iX0_answersTo.all (fun q => decide (decode cX0_answersTo q.1 = .ok q.2)) = true := by decide +kernel
abbrev wsX0_answersTo : List Cond := .code yX0_answersTo cX0_answersTo 5 (some .int) :: wT
abbrev cX0_claims : ByteArray := prog_2_method_15_code
def yX0_claims : MethodName := ⟨"PointAnswers$Bundle", "claims", "()I"⟩
def iX0_claims : List (Nat × Instr × Nat) := [(0, .aload_n 0, 1), (1, .bipush (-6), 2), (3, .invokevirtual 89, 3), (6, .ireturn, 1)]
theorem dX0_claims : iX0_claims.all (fun q => decide (decode cX0_claims q.1 = .ok q.2)) = true := by decide +kernel
abbrev wsX0_claims : List Cond := .code yX0_claims cX0_claims 1 (some .int) :: wT
abbrev cX0_withoutAnswers : ByteArray := prog_2_method_17_code
def yX0_withoutAnswers : MethodName := ⟨"PointAnswers$Bundle", "withoutAnswers", "()I"⟩
def iX0_withoutAnswers : List (Nat × Instr × Nat) := [(0, .aload_n 0, 1), (1, .invokevirtual 92, 3), (4, .istore_n 1, 1), (5, .iconst 0, 1), (6, .istore_n 2, 1), (7, .iload_n 2, 1), (8, .aload_n 0, 1), (9, .getfield 25, 3), (12, .if_icmp .ge 19, 3), (15, .iload_n 1, 1), (16, .aload_n 0, 1), (17, .iload_n 2, 1), (18, .invokevirtual 95, 3), (21, .iconst (-1), 1), (22, .ixor, 1), (23, .iand, 1), (24, .istore_n 1, 1), (25, .iinc 2 1, 3), (28, .goto (-21), 3), (31, .iload_n 1, 1), (32, .ireturn, 1)]
theorem dX0_withoutAnswers : iX0_withoutAnswers.all (fun q => decide (decode cX0_withoutAnswers q.1 = .ok q.2)) = true := by decide +kernel
abbrev wsX0_withoutAnswers : List Cond := .code yX0_withoutAnswers cX0_withoutAnswers 3 (some .int) :: wT
abbrev cX0_ofSide : ByteArray := prog_2_method_19_code
def yX0_ofSide : MethodName := ⟨"PointAnswers$Bundle", "ofSide", "(I)I"⟩
def iX0_ofSide : List (Nat × Instr × Nat) := [(0, .iconst 0, 1), (1, .istore_n 2, 1), (2, .iconst 0, 1), (3, .istore_n 3, 1), (4, .iload_n 3, 1), (5, .aload_n 0, 1), (6, .getfield 25, 3), (9, .if_icmp .ge 36, 3), (12, .aload_n 0, 1), (13, .iload_n 3, 1), (14, .invokevirtual 34, 3), (17, .astore 4, 2), (19, .aload 4, 2), (21, .ifnull 18, 3), (24, .aload 4, 2), (26, .getfield 58, 3), (29, .iload_n 1, 1), (30, .if_icmp .ne 9, 3), (33, .iload_n 2, 1), (34, .iconst 1, 1), (35, .iload_n 3, 1), (36, .ishl, 1), (37, .ior, 1), (38, .istore_n 2, 1), (39, .iinc 3 1, 3), (42, .goto (-38), 3), (45, .iload_n 2, 1), (46, .ireturn, 1)]
theorem dX0_ofSide : iX0_ofSide.all (fun q => decide (decode cX0_ofSide q.1 = .ok q.2)) = true := by decide +kernel
abbrev wsX0_ofSide : List Cond := .code yX0_ofSide cX0_ofSide 5 (some .int) :: wT
abbrev cX0_answered : ByteArray := prog_2_method_26_code
def yX0_answered : MethodName := ⟨"PointAnswers$Bundle", "answered", "()I"⟩
def iX0_answered : List (Nat × Instr × Nat) := [(0, .aload_n 0, 1), (1, .invokevirtual 92, 3), (4, .aload_n 0, 1), (5, .invokevirtual 109, 3), (8, .iconst (-1), 1), (9, .ixor, 1), (10, .iand, 1), (11, .aload_n 0, 1), (12, .invokevirtual 76, 3), (15, .iconst (-1), 1), (16, .ixor, 1), (17, .iand, 1), (18, .ireturn, 1)]
theorem dX0_answered : iX0_answered.all (fun q => decide (decode cX0_answered q.1 = .ok q.2)) = true := by decide +kernel
abbrev wsX0_answered : List Cond := .code yX0_answered cX0_answered 1 (some .int) :: wT
abbrev cX0_reasonAgainst : ByteArray := prog_2_method_28_code
def yX0_reasonAgainst : MethodName := ⟨"PointAnswers$Bundle", "reasonAgainst", "(I)I"⟩
def iX0_reasonAgainst : List (Nat × Instr × Nat) := [(0, .aload_n 0, 1), (1, .invokevirtual 98, 3), (4, .iload_n 1, 1), (5, .invokestatic 86, 3), (8, .ifCond .eq 5, 3), (11, .iconst 1, 1), (12, .ireturn, 1), (13, .aload_n 0, 1), (14, .invokevirtual 100, 3), (17, .iload_n 1, 1), (18, .invokestatic 86, 3), (21, .ifCond .eq 5, 3), (24, .iconst 2, 1), (25, .ireturn, 1), (26, .aload_n 0, 1), (27, .aload_n 0, 1), (28, .getfield 28, 3), (31, .invokevirtual 103, 3), (34, .iload_n 1, 1), (35, .invokestatic 86, 3), (38, .ifCond .eq 5, 3), (41, .iconst 3, 1), (42, .ireturn, 1), (43, .aload_n 0, 1), (44, .invokevirtual 106, 3), (47, .iload_n 1, 1), (48, .invokestatic 86, 3), (51, .ifCond .eq 5, 3), (54, .iconst 4, 1), (55, .ireturn, 1), (56, .aload_n 0, 1), (57, .invokevirtual 76, 3), (60, .iload_n 1, 1), (61, .invokestatic 86, 3), (64, .ifCond .eq 7, 3), (67, .iconst 0, 1), (68, .goto 4, 3), (71, .iconst 5, 1), (72, .ireturn, 1)]
theorem dX0_reasonAgainst : iX0_reasonAgainst.all (fun q => decide (decode cX0_reasonAgainst q.1 = .ok q.2)) = true := by decide +kernel
abbrev wsX0_reasonAgainst : List Cond := .code yX0_reasonAgainst cX0_reasonAgainst 2 (some .int) :: wT
abbrev cX0_depthOf : ByteArray := prog_2_method_29_code
def yX0_depthOf : MethodName := ⟨"PointAnswers$Bundle", "depthOf", "(I)I"⟩
def iX0_depthOf : List (Nat × Instr × Nat) := [(0, .iconst 0, 1), (1, .istore_n 2, 1), (2, .aload_n 0, 1), (3, .iload_n 1, 1), (4, .invokevirtual 34, 3), (7, .astore_n 3, 1), (8, .iload_n 2, 1), (9, .bipush 24, 2), (11, .if_icmp .ge 31, 3), (14, .aload_n 3, 1), (15, .ifnull 27, 3), (18, .aload_n 3, 1), (19, .getfield 67, 3), (22, .bipush (-6), 2), (24, .if_icmp .eq 18, 3), (27, .iinc 2 1, 3), (30, .aload_n 0, 1), (31, .aload_n 3, 1), (32, .getfield 67, 3), (35, .invokevirtual 34, 3), (38, .astore_n 3, 1), (39, .goto (-31), 3), (42, .iload_n 2, 1), (43, .ireturn, 1)]
theorem dX0_depthOf : iX0_depthOf.all (fun q => decide (decode cX0_depthOf q.1 = .ok q.2)) = true := by decide +kernel
abbrev wsX0_depthOf : List Cond := .code yX0_depthOf cX0_depthOf 4 (some .int) :: wT
abbrev cX0_daysLeft : ByteArray := prog_2_method_30_code
def yX0_daysLeft : MethodName := ⟨"PointAnswers$Bundle", "daysLeft", "(LPointAnswers$Point;)I"⟩
def iX0_daysLeft : List (Nat × Instr × Nat) := [(0, .aload_n 1, 1), (1, .getfield 73, 3), (4, .aload_n 0, 1), (5, .getfield 17, 3), (8, .iadd, 1), (9, .aload_n 0, 1), (10, .getfield 28, 3), (13, .isub, 1), (14, .istore_n 2, 1), (15, .aload_n 1, 1), (16, .getfield 67, 3), (19, .bipush (-6), 2), (21, .if_icmp .eq 7, 3), (24, .iload_n 2, 1), (25, .ifCond .ge 8, 3), (28, .bipush (-6), 2), (30, .goto 4, 3), (33, .iload_n 2, 1), (34, .ireturn, 1)]
theorem dX0_daysLeft : iX0_daysLeft.all (fun q => decide (decode cX0_daysLeft q.1 = .ok q.2)) = true := by decide +kernel
abbrev wsX0_daysLeft : List Cond := .code yX0_daysLeft cX0_daysLeft 3 (some .int) :: wT
abbrev cX0_pagesOf : ByteArray := prog_2_method_31_code
def yX0_pagesOf : MethodName := ⟨"PointAnswers$Bundle", "pagesOf", "(II)I"⟩
def iX0_pagesOf : List (Nat × Instr × Nat) := [(0, .iconst 0, 1), (1, .istore_n 3, 1), (2, .iconst 0, 1), (3, .istore 4, 2), (5, .iload 4, 2), (7, .aload_n 0, 1), (8, .getfield 25, 3), (11, .if_icmp .ge 48, 3), (14, .aload_n 0, 1), (15, .iload 4, 2), (17, .invokevirtual 34, 3), (20, .astore 5, 2), (22, .aload 5, 2), (24, .ifnull 29, 3), (27, .aload 5, 2), (29, .getfield 58, 3), (32, .iload_n 1, 1), (33, .if_icmp .ne 20, 3), (36, .iload_n 2, 1), (37, .iload 4, 2), (39, .invokestatic 86, 3), (42, .ifCond .ne 11, 3), (45, .iload_n 3, 1), (46, .aload 5, 2), (48, .getfield 61, 3), (51, .iadd, 1), (52, .istore_n 3, 1), (53, .iinc 4 1, 3), (56, .goto (-51), 3), (59, .iload_n 3, 1), (60, .ireturn, 1)]
theorem dX0_pagesOf : iX0_pagesOf.all (fun q => decide (decode cX0_pagesOf q.1 = .ok q.2)) = true := by decide +kernel
abbrev wsX0_pagesOf : List Cond := .code yX0_pagesOf cX0_pagesOf 6 (some .int) :: wT
abbrev cX1_init : ByteArray := prog_3_method_1_code
def yX1_init : MethodName := ⟨"PointAnswers$Costs", "<init>", "()V"⟩
def iX1_init : List (Nat × Instr × Nat) := [(0, .aload_n 0, 1), (1, .invokespecial 3, 3), (4, .aload_n 0, 1), (5, .bipush 24, 2), (7, .newarray .int, 2), (9, .putfield 9, 3), (12, .aload_n 0, 1), (13, .bipush 24, 2), (15, .newarray .int, 2), (17, .putfield 15, 3), (20, .return_, 1)]
theorem dX1_init : iX1_init.all (fun q => decide (decode cX1_init q.1 = .ok q.2)) = true := by decide +kernel
abbrev wsX1_init : List Cond := .code yX1_init cX1_init 1 none :: wT
abbrev cX1_addToTarget : ByteArray := prog_3_method_3_code
def yX1_addToTarget : MethodName := ⟨"PointAnswers$Costs", "addToTarget", "(III)V"⟩
def iX1_addToTarget : List (Nat × Instr × Nat) := [(0, .iload_n 1, 1), (1, .ifCond .lt 57, 3), (4, .iload_n 1, 1), (5, .aload_n 0, 1), (6, .getfield 9, 3), (9, .arraylength, 1), (10, .if_icmp .ge 48, 3), (13, .iload_n 1, 1), (14, .aload_n 0, 1), (15, .getfield 15, 3), (18, .arraylength, 1), (19, .if_icmp .ge 39, 3), (22, .aload_n 0, 1), (23, .getfield 9, 3), (26, .iload_n 1, 1), (27, .aload_n 0, 1), (28, .getfield 9, 3), (31, .iload_n 1, 1), (32, .iaload, 1), (33, .iload_n 3, 1), (34, .invokestatic 27, 3), (37, .iastore, 1), (38, .aload_n 0, 1), (39, .getfield 15, 3), (42, .iload_n 1, 1), (43, .sipush 1000, 3), (46, .aload_n 0, 1), (47, .getfield 15, 3), (50, .iload_n 1, 1), (51, .iaload, 1), (52, .iload_n 2, 1), (53, .iadd, 1), (54, .invokestatic 27, 3), (57, .iastore, 1), (58, .return_, 1)]
theorem dX1_addToTarget : iX1_addToTarget.all (fun q => decide (decode cX1_addToTarget q.1 = .ok q.2)) = true := by decide +kernel
abbrev wsX1_addToTarget : List Cond := .code yX1_addToTarget cX1_addToTarget 4 none :: wT
abbrev cX1_weigh : ByteArray := prog_3_method_2_code
def yX1_weigh : MethodName := ⟨"PointAnswers$Costs", "weigh", "(LPointAnswers$Bundle;)V"⟩
def iX1_weigh : List (Nat × Instr × Nat) := [(0, .aload_n 1, 1), (1, .invokevirtual 18, 3), (4, .istore_n 2, 1), (5, .aload_n 1, 1), (6, .invokevirtual 24, 3), (9, .istore_n 3, 1), (10, .aload_n 0, 1), (11, .getfield 9, 3), (14, .arraylength, 1), (15, .aload_n 0, 1), (16, .getfield 15, 3), (19, .arraylength, 1), (20, .invokestatic 27, 3), (23, .istore 4, 2), (25, .iconst 0, 1), (26, .istore 5, 2), (28, .iload 5, 2), (30, .iload 4, 2), (32, .if_icmp .ge 27, 3), (35, .aload_n 0, 1), (36, .getfield 9, 3), (39, .iload 5, 2), (41, .sipush 1000, 3), (44, .iastore, 1), (45, .aload_n 0, 1), (46, .getfield 15, 3), (49, .iload 5, 2), (51, .iconst 0, 1), (52, .iastore, 1), (53, .iinc 5 1, 3), (56, .goto (-28), 3), (59, .iload 4, 2), (61, .iconst 1, 1), (62, .isub, 1), (63, .istore 5, 2), (65, .iload 5, 2), (67, .ifCond .lt 95, 3), (70, .aload_n 1, 1), (71, .iload 5, 2), (73, .invokevirtual 33, 3), (76, .astore 6, 2), (78, .aload 6, 2), (80, .ifnonnull 6, 3), (83, .goto 73, 3), (86, .iload_n 2, 1), (87, .iload 5, 2), (89, .invokestatic 37, 3), (92, .ifCond .eq 24, 3), (95, .aload_n 0, 1), (96, .getfield 9, 3), (99, .iload 5, 2), (101, .iconst 0, 1), (102, .iastore, 1), (103, .aload_n 0, 1), (104, .getfield 15, 3), (107, .iload 5, 2), (109, .sipush 1000, 3), (112, .iastore, 1), (113, .goto 20, 3), (116, .iload_n 3, 1), (117, .iload 5, 2), (119, .invokestatic 37, 3), (122, .ifCond .eq 11, 3), (125, .aload_n 0, 1), (126, .getfield 9, 3), (129, .iload 5, 2), (131, .iconst 1, 1), (132, .iastore, 1), (133, .aload_n 0, 1), (134, .aload 6, 2), (136, .getfield 41, 3), (139, .aload_n 0, 1), (140, .getfield 9, 3), (143, .iload 5, 2), (145, .iaload, 1), (146, .aload_n 0, 1), (147, .getfield 15, 3), (150, .iload 5, 2), (152, .iaload, 1), (153, .invokevirtual 47, 3), (156, .iinc 5 (-1), 3), (159, .goto (-94), 3), (162, .return_, 1)]
theorem dX1_weigh : iX1_weigh.all (fun q => decide (decode cX1_weigh q.1 = .ok q.2)) = true := by decide +kernel
abbrev wsX1_weigh : List Cond := .code yX1_weigh cX1_weigh 7 none :: wT
abbrev cX1_reachable : ByteArray := prog_3_method_6_code
def yX1_reachable : MethodName := ⟨"PointAnswers$Costs", "reachable", "(I)I"⟩
def iX1_reachable : List (Nat × Instr × Nat) := [(0, .iload_n 0, 1), (1, .sipush 1000, 3), (4, .if_icmp .lt 8, 3), (7, .bipush (-6), 2), (9, .goto 4, 3), (12, .iload_n 0, 1), (13, .ireturn, 1)]
theorem dX1_reachable : iX1_reachable.all (fun q => decide (decode cX1_reachable q.1 = .ok q.2)) = true := by decide +kernel
abbrev wsX1_reachable : List Cond := .code yX1_reachable cX1_reachable 1 (some .int) :: wT
abbrev cX1_answersToFall : ByteArray := prog_3_method_4_code
def yX1_answersToFall : MethodName := ⟨"PointAnswers$Costs", "answersToFall", "(I)I"⟩
def iX1_answersToFall : List (Nat × Instr × Nat) := [(0, .iload_n 1, 1), (1, .ifCond .lt 21, 3), (4, .iload_n 1, 1), (5, .aload_n 0, 1), (6, .getfield 9, 3), (9, .arraylength, 1), (10, .if_icmp .ge 12, 3), (13, .aload_n 0, 1), (14, .getfield 9, 3), (17, .iload_n 1, 1), (18, .iaload, 1), (19, .goto 6, 3), (22, .sipush 1000, 3), (25, .invokestatic 51, 3), (28, .ireturn, 1)]
theorem dX1_answersToFall : iX1_answersToFall.all (fun q => decide (decode cX1_answersToFall q.1 = .ok q.2)) = true := by decide +kernel
abbrev wsX1_answersToFall : List Cond := .code yX1_answersToFall cX1_answersToFall 2 (some .int) :: wT
abbrev cX1_answersToStand : ByteArray := prog_3_method_5_code
def yX1_answersToStand : MethodName := ⟨"PointAnswers$Costs", "answersToStand", "(I)I"⟩
def iX1_answersToStand : List (Nat × Instr × Nat) := [(0, .iload_n 1, 1), (1, .ifCond .lt 21, 3), (4, .iload_n 1, 1), (5, .aload_n 0, 1), (6, .getfield 15, 3), (9, .arraylength, 1), (10, .if_icmp .ge 12, 3), (13, .aload_n 0, 1), (14, .getfield 15, 3), (17, .iload_n 1, 1), (18, .iaload, 1), (19, .goto 6, 3), (22, .sipush 1000, 3), (25, .invokestatic 51, 3), (28, .ireturn, 1)]
theorem dX1_answersToStand : iX1_answersToStand.all (fun q => decide (decode cX1_answersToStand q.1 = .ok q.2)) = true := by decide +kernel
abbrev wsX1_answersToStand : List Cond := .code yX1_answersToStand cX1_answersToStand 2 (some .int) :: wT
abbrev cX2_init : ByteArray := prog_4_method_1_code
def yX2_init : MethodName := ⟨"PointAnswers$History", "<init>", "()V"⟩
def iX2_init : List (Nat × Instr × Nat) := [(0, .aload_n 0, 1), (1, .invokespecial 3, 3), (4, .aload_n 0, 1), (5, .bipush 7, 2), (7, .anewarray 9, 3), (10, .putfield 11, 3), (13, .iconst 0, 1), (14, .istore_n 1, 1), (15, .iload_n 1, 1), (16, .aload_n 0, 1), (17, .getfield 11, 3), (20, .arraylength, 1), (21, .if_icmp .ge 22, 3), (24, .aload_n 0, 1), (25, .getfield 11, 3), (28, .iload_n 1, 1), (29, .new 9, 3), (32, .dup, 1), (33, .invokespecial 17, 3), (36, .aastore, 1), (37, .iinc 1 1, 3), (40, .goto (-25), 3), (43, .return_, 1)]
theorem dX2_init : iX2_init.all (fun q => decide (decode cX2_init q.1 = .ok q.2)) = true := by decide +kernel
abbrev wsX2_init : List Cond := .code yX2_init cX2_init 2 none :: wT
abbrev cX2_rowAt : ByteArray := prog_4_method_2_code
def yX2_rowAt : MethodName := ⟨"PointAnswers$History", "rowAt", "(I)LPointAnswers$Bundle;"⟩
def iX2_rowAt : List (Nat × Instr × Nat) := [(0, .iload_n 1, 1), (1, .ifCond .lt 21, 3), (4, .iload_n 1, 1), (5, .aload_n 0, 1), (6, .getfield 11, 3), (9, .arraylength, 1), (10, .if_icmp .ge 12, 3), (13, .aload_n 0, 1), (14, .getfield 11, 3), (17, .iload_n 1, 1), (18, .aaload, 1), (19, .goto 4, 3), (22, .aconst_null, 1), (23, .areturn, 1)]
theorem dX2_rowAt : iX2_rowAt.all (fun q => decide (decode cX2_rowAt q.1 = .ok q.2)) = true := by decide +kernel
abbrev wsX2_rowAt : List Cond := .code yX2_rowAt cX2_rowAt 2 (some (.object "PointAnswers$Bundle")) :: wT
abbrev cX2_prepare : ByteArray := prog_4_method_3_code
def yX2_prepare : MethodName := ⟨"PointAnswers$History", "prepare", "(LPointAnswers$Bundle;)V"⟩
def iX2_prepare : List (Nat × Instr × Nat) := [(0, .aload_n 0, 1), (1, .aload_n 0, 1), (2, .getfield 18, 3), (5, .invokevirtual 22, 3), (8, .astore_n 2, 1), (9, .aload_n 2, 1), (10, .ifnull 8, 3), (13, .aload_n 2, 1), (14, .aload_n 1, 1), (15, .invokevirtual 26, 3), (18, .return_, 1)]
theorem dX2_prepare : iX2_prepare.all (fun q => decide (decode cX2_prepare q.1 = .ok q.2)) = true := by decide +kernel
abbrev wsX2_prepare : List Cond := .code yX2_prepare cX2_prepare 3 none :: wT
abbrev cX2_dropOldest : ByteArray := prog_4_method_5_code
def yX2_dropOldest : MethodName := ⟨"PointAnswers$History", "dropOldest", "()V"⟩
def iX2_dropOldest : List (Nat × Instr × Nat) := [(0, .aload_n 0, 1), (1, .iconst 0, 1), (2, .invokevirtual 22, 3), (5, .astore_n 1, 1), (6, .iconst 0, 1), (7, .istore_n 2, 1), (8, .iload_n 2, 1), (9, .iconst 1, 1), (10, .iadd, 1), (11, .aload_n 0, 1), (12, .getfield 11, 3), (15, .arraylength, 1), (16, .if_icmp .ge 32, 3), (19, .aload_n 0, 1), (20, .getfield 11, 3), (23, .iload_n 2, 1), (24, .aload_n 0, 1), (25, .getfield 11, 3), (28, .iload_n 2, 1), (29, .iconst 1, 1), (30, .iadd, 1), (31, .aaload, 1), (32, .aastore, 1), (33, .aload_n 0, 1), (34, .getfield 11, 3), (37, .iload_n 2, 1), (38, .iconst 1, 1), (39, .iadd, 1), (40, .aload_n 1, 1), (41, .aastore, 1), (42, .iinc 2 1, 3), (45, .goto (-37), 3), (48, .return_, 1)]
theorem dX2_dropOldest : iX2_dropOldest.all (fun q => decide (decode cX2_dropOldest q.1 = .ok q.2)) = true := by decide +kernel
abbrev wsX2_dropOldest : List Cond := .code yX2_dropOldest cX2_dropOldest 3 none :: wT
abbrev cX2_settle : ByteArray := prog_4_method_4_code
def yX2_settle : MethodName := ⟨"PointAnswers$History", "settle", "(I)I"⟩
def iX2_settle : List (Nat × Instr × Nat) := [(0, .iload_n 1, 1), (1, .ifCond .lt 29, 3), (4, .aload_n 0, 1), (5, .getfield 18, 3), (8, .bipush 6, 2), (10, .if_icmp .ge 16, 3), (13, .aload_n 0, 1), (14, .dup, 1), (15, .getfield 18, 3), (18, .iconst 1, 1), (19, .iadd, 1), (20, .putfield 18, 3), (23, .goto 7, 3), (26, .aload_n 0, 1), (27, .invokevirtual 30, 3), (30, .iload_n 1, 1), (31, .ireturn, 1)]
theorem dX2_settle : iX2_settle.all (fun q => decide (decode cX2_settle q.1 = .ok q.2)) = true := by decide +kernel
abbrev wsX2_settle : List Cond := .code yX2_settle cX2_settle 2 (some .int) :: wT
abbrev cX2_bringBack : ByteArray := prog_4_method_6_code
def yX2_bringBack : MethodName := ⟨"PointAnswers$History", "bringBack", "(LPointAnswers$Bundle;)I"⟩
def iX2_bringBack : List (Nat × Instr × Nat) := [(0, .aload_n 0, 1), (1, .aload_n 0, 1), (2, .getfield 18, 3), (5, .iconst 1, 1), (6, .isub, 1), (7, .invokevirtual 22, 3), (10, .astore_n 2, 1), (11, .aload_n 2, 1), (12, .ifnonnull 6, 3), (15, .bipush (-5), 2), (17, .ireturn, 1), (18, .aload_n 1, 1), (19, .aload_n 2, 1), (20, .invokevirtual 26, 3), (23, .aload_n 0, 1), (24, .dup, 1), (25, .getfield 18, 3), (28, .iconst 1, 1), (29, .isub, 1), (30, .putfield 18, 3), (33, .aload_n 0, 1), (34, .getfield 18, 3), (37, .ireturn, 1)]
theorem dX2_bringBack : iX2_bringBack.all (fun q => decide (decode cX2_bringBack q.1 = .ok q.2)) = true := by decide +kernel
abbrev wsX2_bringBack : List Cond := .code yX2_bringBack cX2_bringBack 3 (some .int) :: wT
abbrev cX3_init : ByteArray := prog_5_method_1_code
def yX3_init : MethodName := ⟨"PointAnswers$Pad", "<init>", "()V"⟩
def iX3_init : List (Nat × Instr × Nat) := [(0, .aload_n 0, 1), (1, .invokespecial 3, 3), (4, .aload_n 0, 1), (5, .bipush 80, 2), (7, .newarray .char, 2), (9, .putfield 9, 3), (12, .return_, 1)]
theorem dX3_init : iX3_init.all (fun q => decide (decode cX3_init q.1 = .ok q.2)) = true := by decide +kernel
abbrev wsX3_init : List Cond := .code yX3_init cX3_init 1 none :: wT
abbrev cX3_empty : ByteArray := prog_5_method_2_code
def yX3_empty : MethodName := ⟨"PointAnswers$Pad", "empty", "()I"⟩
def iX3_empty : List (Nat × Instr × Nat) := [(0, .aload_n 0, 1), (1, .getfield 15, 3), (4, .istore_n 1, 1), (5, .aload_n 0, 1), (6, .iconst 0, 1), (7, .putfield 15, 3), (10, .iload_n 1, 1), (11, .ireturn, 1)]
theorem dX3_empty : iX3_empty.all (fun q => decide (decode cX3_empty q.1 = .ok q.2)) = true := by decide +kernel
abbrev wsX3_empty : List Cond := .code yX3_empty cX3_empty 2 (some .int) :: wT
abbrev cX3_signOf : ByteArray := prog_5_method_4_code
def yX3_signOf : MethodName := ⟨"PointAnswers$Pad", "signOf", "(JI)C"⟩
def iX3_signOf : List (Nat × Instr × Nat) := [(0, .lload_n 0, 1), (1, .bipush 8, 2), (3, .iload_n 2, 1), (4, .imul, 1), (5, .lushr, 1), (6, .ldc2_w 23, 3), (9, .land, 1), (10, .l2i, 1), (11, .i2c, 1), (12, .ireturn, 1)]
theorem dX3_signOf : iX3_signOf.all (fun q => decide (decode cX3_signOf q.1 = .ok q.2)) = true := by decide +kernel
abbrev wsX3_signOf : List Cond := .code yX3_signOf cX3_signOf 3 (some .char) :: wT
abbrev cX3_signsIn : ByteArray := prog_5_method_3_code
def yX3_signsIn : MethodName := ⟨"PointAnswers$Pad", "signsIn", "(J)I"⟩
def iX3_signsIn : List (Nat × Instr × Nat) := [(0, .iconst 0, 1), (1, .istore_n 2, 1), (2, .iload_n 2, 1), (3, .bipush 8, 2), (5, .if_icmp .ge 37, 3), (8, .lload_n 0, 1), (9, .iload_n 2, 1), (10, .invokestatic 19, 3), (13, .ifCond .eq 29, 3), (16, .lload_n 0, 1), (17, .iload_n 2, 1), (18, .invokestatic 19, 3), (21, .istore_n 3, 1), (22, .iload_n 3, 1), (23, .bipush 33, 2), (25, .if_icmp .lt 9, 3), (28, .iload_n 3, 1), (29, .bipush 126, 2), (31, .if_icmp .le 5, 3), (34, .iconst 0, 1), (35, .ireturn, 1), (36, .iinc 2 1, 3), (39, .goto (-37), 3), (42, .iload_n 2, 1), (43, .bipush 8, 2), (45, .if_icmp .ge 18, 3), (48, .lload_n 0, 1), (49, .bipush 8, 2), (51, .iload_n 2, 1), (52, .imul, 1), (53, .lushr, 1), (54, .lconst 0, 1), (55, .lcmp, 1), (56, .ifCond .eq 7, 3), (59, .iconst 1, 1), (60, .goto 4, 3), (63, .iconst 0, 1), (64, .istore_n 3, 1), (65, .iload_n 3, 1), (66, .ifCond .eq 7, 3), (69, .iconst 0, 1), (70, .goto 4, 3), (73, .iload_n 2, 1), (74, .ireturn, 1)]
theorem dX3_signsIn : iX3_signsIn.all (fun q => decide (decode cX3_signsIn q.1 = .ok q.2)) = true := by decide +kernel
abbrev wsX3_signsIn : List Cond := .code yX3_signsIn cX3_signsIn 4 (some .int) :: wT
abbrev cX3_append : ByteArray := prog_5_method_5_code
def yX3_append : MethodName := ⟨"PointAnswers$Pad", "append", "(C)V"⟩
def iX3_append : List (Nat × Instr × Nat) := [(0, .aload_n 0, 1), (1, .getfield 15, 3), (4, .ifCond .lt 35, 3), (7, .aload_n 0, 1), (8, .getfield 15, 3), (11, .aload_n 0, 1), (12, .getfield 9, 3), (15, .arraylength, 1), (16, .if_icmp .ge 23, 3), (19, .aload_n 0, 1), (20, .getfield 9, 3), (23, .aload_n 0, 1), (24, .getfield 15, 3), (27, .iload_n 1, 1), (28, .castore, 1), (29, .aload_n 0, 1), (30, .dup, 1), (31, .getfield 15, 3), (34, .iconst 1, 1), (35, .iadd, 1), (36, .putfield 15, 3), (39, .return_, 1)]
theorem dX3_append : iX3_append.all (fun q => decide (decode cX3_append q.1 = .ok q.2)) = true := by decide +kernel
abbrev wsX3_append : List Cond := .code yX3_append cX3_append 2 none :: wT
abbrev cX3_signAt : ByteArray := prog_5_method_6_code
def yX3_signAt : MethodName := ⟨"PointAnswers$Pad", "signAt", "(I)C"⟩
def iX3_signAt : List (Nat × Instr × Nat) := [(0, .iload_n 1, 1), (1, .ifCond .lt 29, 3), (4, .iload_n 1, 1), (5, .aload_n 0, 1), (6, .getfield 15, 3), (9, .if_icmp .ge 21, 3), (12, .iload_n 1, 1), (13, .aload_n 0, 1), (14, .getfield 9, 3), (17, .arraylength, 1), (18, .if_icmp .ge 12, 3), (21, .aload_n 0, 1), (22, .getfield 9, 3), (25, .iload_n 1, 1), (26, .caload, 1), (27, .goto 4, 3), (30, .iconst 0, 1), (31, .ireturn, 1)]
theorem dX3_signAt : iX3_signAt.all (fun q => decide (decode cX3_signAt q.1 = .ok q.2)) = true := by decide +kernel
abbrev wsX3_signAt : List Cond := .code yX3_signAt cX3_signAt 2 (some .char) :: wT
abbrev cX5_init : ByteArray := prog_7_method_1_code
def yX5_init : MethodName := ⟨"PointAnswers$Reader", "<init>", "()V"⟩
def iX5_init : List (Nat × Instr × Nat) := [(0, .aload_n 0, 1), (1, .invokespecial 3, 3), (4, .return_, 1)]
theorem dX5_init : iX5_init.all (fun q => decide (decode cX5_init q.1 = .ok q.2)) = true := by decide +kernel
abbrev wsX5_init : List Cond := .code yX5_init cX5_init 1 none :: wT
abbrev cX5_rewind : ByteArray := prog_7_method_2_code
def yX5_rewind : MethodName := ⟨"PointAnswers$Reader", "rewind", "()V"⟩
def iX5_rewind : List (Nat × Instr × Nat) := [(0, .aload_n 0, 1), (1, .iconst 0, 1), (2, .putfield 9, 3), (5, .return_, 1)]
theorem dX5_rewind : iX5_rewind.all (fun q => decide (decode cX5_rewind q.1 = .ok q.2)) = true := by decide +kernel
abbrev wsX5_rewind : List Cond := .code yX5_rewind cX5_rewind 1 none :: wT
abbrev cX5_takeDigit : ByteArray := prog_7_method_6_code
def yX5_takeDigit : MethodName := ⟨"PointAnswers$Reader", "takeDigit", "(LPointAnswers$Pad;CC)Z"⟩
def iX5_takeDigit : List (Nat × Instr × Nat) := [(0, .aload_n 1, 1), (1, .aload_n 0, 1), (2, .getfield 9, 3), (5, .invokevirtual 31, 3), (8, .istore 4, 2), (10, .iload 4, 2), (12, .iload_n 2, 1), (13, .if_icmp .lt 9, 3), (16, .iload 4, 2), (18, .iload_n 3, 1), (19, .if_icmp .le 5, 3), (22, .iconst 0, 1), (23, .ireturn, 1), (24, .aload_n 0, 1), (25, .iload 4, 2), (27, .bipush 48, 2), (29, .isub, 1), (30, .putfield 49, 3), (33, .aload_n 0, 1), (34, .dup, 1), (35, .getfield 9, 3), (38, .iconst 1, 1), (39, .iadd, 1), (40, .putfield 9, 3), (43, .iconst 1, 1), (44, .ireturn, 1)]
theorem dX5_takeDigit : iX5_takeDigit.all (fun q => decide (decode cX5_takeDigit q.1 = .ok q.2)) = true := by decide +kernel
abbrev wsX5_takeDigit : List Cond := .code yX5_takeDigit cX5_takeDigit 5 (some .boolean) :: wT
abbrev cX5_readDigit : ByteArray := prog_7_method_7_code
def yX5_readDigit : MethodName := ⟨"PointAnswers$Reader", "readDigit", "(LPointAnswers$Pad;CC)Z"⟩
def iX5_readDigit : List (Nat × Instr × Nat) := [(0, .aload_n 0, 1), (1, .aload_n 1, 1), (2, .iload_n 2, 1), (3, .iload_n 3, 1), (4, .invokevirtual 52, 3), (7, .ifCond .ne 5, 3), (10, .iconst 0, 1), (11, .ireturn, 1), (12, .aload_n 0, 1), (13, .aload_n 0, 1), (14, .getfield 49, 3), (17, .putfield 55, 3), (20, .iconst 1, 1), (21, .ireturn, 1)]
theorem dX5_readDigit : iX5_readDigit.all (fun q => decide (decode cX5_readDigit q.1 = .ok q.2)) = true := by decide +kernel
abbrev wsX5_readDigit : List Cond := .code yX5_readDigit cX5_readDigit 4 (some .boolean) :: wT
abbrev cX5_take : ByteArray := prog_7_method_5_code
def yX5_take : MethodName := ⟨"PointAnswers$Reader", "take", "(LPointAnswers$Pad;C)Z"⟩
def iX5_take : List (Nat × Instr × Nat) := [(0, .aload_n 1, 1), (1, .aload_n 0, 1), (2, .getfield 9, 3), (5, .invokevirtual 31, 3), (8, .iload_n 2, 1), (9, .if_icmp .eq 5, 3), (12, .iconst 0, 1), (13, .ireturn, 1), (14, .aload_n 0, 1), (15, .dup, 1), (16, .getfield 9, 3), (19, .iconst 1, 1), (20, .iadd, 1), (21, .putfield 9, 3), (24, .iconst 1, 1), (25, .ireturn, 1)]
theorem dX5_take : iX5_take.all (fun q => decide (decode cX5_take q.1 = .ok q.2)) = true := by decide +kernel
abbrev wsX5_take : List Cond := .code yX5_take cX5_take 3 (some .boolean) :: wT
abbrev cX5_readCites : ByteArray := prog_7_method_10_code
def yX5_readCites : MethodName := ⟨"PointAnswers$Reader", "readCites", "(LPointAnswers$Pad;)Z"⟩
def iX5_readCites : List (Nat × Instr × Nat) := [(0, .aload_n 0, 1), (1, .iconst 0, 1), (2, .putfield 64, 3), (5, .aload_n 0, 1), (6, .aload_n 1, 1), (7, .bipush 43, 2), (9, .invokevirtual 27, 3), (12, .ifCond .ne 5, 3), (15, .iconst 1, 1), (16, .ireturn, 1), (17, .iconst 0, 1), (18, .istore_n 2, 1), (19, .iload_n 2, 1), (20, .bipush 80, 2), (22, .if_icmp .ge 36, 3), (25, .aload_n 0, 1), (26, .aload_n 1, 1), (27, .bipush 48, 2), (29, .bipush 57, 2), (31, .invokevirtual 52, 3), (34, .ifCond .eq 24, 3), (37, .aload_n 0, 1), (38, .dup, 1), (39, .getfield 64, 3), (42, .iconst 1, 1), (43, .aload_n 0, 1), (44, .getfield 49, 3), (47, .ishl, 1), (48, .ior, 1), (49, .putfield 64, 3), (52, .iinc 2 1, 3), (55, .goto (-36), 3), (58, .aload_n 0, 1), (59, .getfield 64, 3), (62, .ifCond .eq 7, 3), (65, .iconst 1, 1), (66, .goto 4, 3), (69, .iconst 0, 1), (70, .ireturn, 1)]
theorem dX5_readCites : iX5_readCites.all (fun q => decide (decode cX5_readCites q.1 = .ok q.2)) = true := by decide +kernel
abbrev wsX5_readCites : List Cond := .code yX5_readCites cX5_readCites 3 (some .boolean) :: wT
abbrev cX5_readPaper : ByteArray := prog_7_method_9_code
def yX5_readPaper : MethodName := ⟨"PointAnswers$Reader", "readPaper", "(LPointAnswers$Pad;)Z"⟩
def iX5_readPaper : List (Nat × Instr × Nat) := [(0, .aload_n 0, 1), (1, .aload_n 1, 1), (2, .bipush 47, 2), (4, .invokevirtual 27, 3), (7, .ifCond .eq 15, 3), (10, .aload_n 0, 1), (11, .aload_n 1, 1), (12, .bipush 49, 2), (14, .bipush 57, 2), (16, .invokevirtual 52, 3), (19, .ifCond .ne 5, 3), (22, .iconst 0, 1), (23, .ireturn, 1), (24, .aload_n 0, 1), (25, .aload_n 0, 1), (26, .getfield 49, 3), (29, .putfield 58, 3), (32, .aload_n 0, 1), (33, .aload_n 1, 1), (34, .invokevirtual 61, 3), (37, .ireturn, 1)]
theorem dX5_readPaper : iX5_readPaper.all (fun q => decide (decode cX5_readPaper q.1 = .ok q.2)) = true := by decide +kernel
abbrev wsX5_readPaper : List Cond := .code yX5_readPaper cX5_readPaper 2 (some .boolean) :: wT
abbrev cX5_readNumber : ByteArray := prog_7_method_8_code
def yX5_readNumber : MethodName := ⟨"PointAnswers$Reader", "readNumber", "(LPointAnswers$Pad;)Z"⟩
def iX5_readNumber : List (Nat × Instr × Nat) := [(0, .aload_n 0, 1), (1, .aload_n 1, 1), (2, .bipush 48, 2), (4, .bipush 57, 2), (6, .invokevirtual 39, 3), (9, .ifCond .ne 5, 3), (12, .iconst 0, 1), (13, .ireturn, 1), (14, .aload_n 0, 1), (15, .getfield 55, 3), (18, .ifCond .le 31, 3), (21, .aload_n 0, 1), (22, .aload_n 1, 1), (23, .bipush 48, 2), (25, .bipush 57, 2), (27, .invokevirtual 52, 3), (30, .ifCond .eq 19, 3), (33, .aload_n 0, 1), (34, .bipush 10, 2), (36, .aload_n 0, 1), (37, .getfield 55, 3), (40, .imul, 1), (41, .aload_n 0, 1), (42, .getfield 49, 3), (45, .iadd, 1), (46, .putfield 55, 3), (49, .iconst 1, 1), (50, .ireturn, 1)]
theorem dX5_readNumber : iX5_readNumber.all (fun q => decide (decode cX5_readNumber q.1 = .ok q.2)) = true := by decide +kernel
abbrev wsX5_readNumber : List Cond := .code yX5_readNumber cX5_readNumber 2 (some .boolean) :: wT
abbrev cX5_readOrder : ByteArray := prog_7_method_4_code
def yX5_readOrder : MethodName := ⟨"PointAnswers$Reader", "readOrder", "(LPointAnswers$Pad;)Z"⟩
def iX5_readOrder : List (Nat × Instr × Nat) := [(0, .aload_n 0, 1), (1, .aload_n 1, 1), (2, .aload_n 0, 1), (3, .getfield 9, 3), (6, .invokevirtual 31, 3), (9, .putfield 35, 3), (12, .aload_n 0, 1), (13, .getfield 35, 3), (16, .lookupswitch 164 #[(97, 96), (99, 60), (111, 144), (114, 128), (116, 128), (119, 128)], 60), (76, .aload_n 0, 1), (77, .dup, 1), (78, .getfield 9, 3), (81, .iconst 1, 1), (82, .iadd, 1), (83, .putfield 9, 3), (86, .aload_n 0, 1), (87, .aload_n 1, 1), (88, .bipush 48, 2), (90, .bipush 49, 2), (92, .invokevirtual 39, 3), (95, .ifCond .eq 15, 3), (98, .aload_n 0, 1), (99, .aload_n 1, 1), (100, .invokevirtual 43, 3), (103, .ifCond .eq 7, 3), (106, .iconst 1, 1), (107, .goto 4, 3), (110, .iconst 0, 1), (111, .ireturn, 1), (112, .aload_n 0, 1), (113, .dup, 1), (114, .getfield 9, 3), (117, .iconst 1, 1), (118, .iadd, 1), (119, .putfield 9, 3), (122, .aload_n 0, 1), (123, .aload_n 1, 1), (124, .invokevirtual 46, 3), (127, .ifCond .eq 15, 3), (130, .aload_n 0, 1), (131, .aload_n 1, 1), (132, .invokevirtual 43, 3), (135, .ifCond .eq 7, 3), (138, .iconst 1, 1), (139, .goto 4, 3), (142, .iconst 0, 1), (143, .ireturn, 1), (144, .aload_n 0, 1), (145, .dup, 1), (146, .getfield 9, 3), (149, .iconst 1, 1), (150, .iadd, 1), (151, .putfield 9, 3), (154, .aload_n 0, 1), (155, .aload_n 1, 1), (156, .invokevirtual 46, 3), (159, .ireturn, 1), (160, .aload_n 0, 1), (161, .dup, 1), (162, .getfield 9, 3), (165, .iconst 1, 1), (166, .iadd, 1), (167, .putfield 9, 3), (170, .aload_n 0, 1), (171, .aload_n 1, 1), (172, .bipush 48, 2), (174, .bipush 57, 2), (176, .invokevirtual 39, 3), (179, .ireturn, 1), (180, .iconst 0, 1), (181, .ireturn, 1)]
theorem dX5_readOrder : iX5_readOrder.all (fun q => decide (decode cX5_readOrder q.1 = .ok q.2)) = true := by decide +kernel
abbrev wsX5_readOrder : List Cond := .code yX5_readOrder cX5_readOrder 2 (some .boolean) :: wT
abbrev cX5_firstFault : ByteArray := prog_7_method_3_code
def yX5_firstFault : MethodName := ⟨"PointAnswers$Reader", "firstFault", "(LPointAnswers$Pad;)I"⟩
def iX5_firstFault : List (Nat × Instr × Nat) := [(0, .aload_n 0, 1), (1, .invokevirtual 15, 3), (4, .iconst 0, 1), (5, .istore_n 2, 1), (6, .iload_n 2, 1), (7, .bipush 80, 2), (9, .if_icmp .ge 51, 3), (12, .aload_n 0, 1), (13, .aload_n 1, 1), (14, .invokevirtual 18, 3), (17, .ifCond .ne 8, 3), (20, .aload_n 0, 1), (21, .getfield 9, 3), (24, .ireturn, 1), (25, .aload_n 0, 1), (26, .getfield 9, 3), (29, .aload_n 1, 1), (30, .getfield 22, 3), (33, .if_icmp .lt 6, 3), (36, .bipush (-6), 2), (38, .ireturn, 1), (39, .aload_n 0, 1), (40, .aload_n 1, 1), (41, .bipush 59, 2), (43, .invokevirtual 27, 3), (46, .ifCond .ne 8, 3), (49, .aload_n 0, 1), (50, .getfield 9, 3), (53, .ireturn, 1), (54, .iinc 2 1, 3), (57, .goto (-51), 3), (60, .aload_n 0, 1), (61, .getfield 9, 3), (64, .ireturn, 1)]
theorem dX5_firstFault : iX5_firstFault.all (fun q => decide (decode cX5_firstFault q.1 = .ok q.2)) = true := by decide +kernel
abbrev wsX5_firstFault : List Cond := .code yX5_firstFault cX5_firstFault 3 (some .int) :: wT
abbrev cX6_init : ByteArray := prog_1_method_1_code
def yX6_init : MethodName := ⟨"PointAnswers", "<init>", "()V"⟩
def iX6_init : List (Nat × Instr × Nat) := [(0, .aload_n 0, 1), (1, .invokespecial 3, 3), (4, .aload_n 0, 1), (5, .new 9, 3), (8, .dup, 1), (9, .invokespecial 11, 3), (12, .putfield 12, 3), (15, .aload_n 0, 1), (16, .new 16, 3), (19, .dup, 1), (20, .invokespecial 18, 3), (23, .putfield 19, 3), (26, .aload_n 0, 1), (27, .new 23, 3), (30, .dup, 1), (31, .invokespecial 25, 3), (34, .putfield 26, 3), (37, .aload_n 0, 1), (38, .new 30, 3), (41, .dup, 1), (42, .invokespecial 32, 3), (45, .putfield 33, 3), (48, .aload_n 0, 1), (49, .new 37, 3), (52, .dup, 1), (53, .invokespecial 39, 3), (56, .putfield 40, 3), (59, .aload_n 0, 1), (60, .iconst 2, 1), (61, .anewarray 9, 3), (64, .putfield 44, 3), (67, .iconst 0, 1), (68, .istore_n 1, 1), (69, .iload_n 1, 1), (70, .aload_n 0, 1), (71, .getfield 44, 3), (74, .arraylength, 1), (75, .if_icmp .ge 22, 3), (78, .aload_n 0, 1), (79, .getfield 44, 3), (82, .iload_n 1, 1), (83, .new 9, 3), (86, .dup, 1), (87, .invokespecial 11, 3), (90, .aastore, 1), (91, .iinc 1 1, 3), (94, .goto (-25), 3), (97, .return_, 1)]
theorem dX6_init : iX6_init.all (fun q => decide (decode cX6_init q.1 = .ok q.2)) = true := by decide +kernel
abbrev wsX6_init : List Cond := .code yX6_init cX6_init 2 none :: wT
abbrev cX6_set : ByteArray := prog_1_method_2_code
def yX6_set : MethodName := ⟨"PointAnswers", "set", "(II)I"⟩
def iX6_set : List (Nat × Instr × Nat) := [(0, .aload_n 0, 1), (1, .getfield 40, 3), (4, .aload_n 0, 1), (5, .getfield 12, 3), (8, .invokevirtual 48, 3), (11, .aload_n 0, 1), (12, .getfield 40, 3), (15, .aload_n 0, 1), (16, .getfield 12, 3), (19, .iload_n 1, 1), (20, .iload_n 2, 1), (21, .invokevirtual 52, 3), (24, .invokevirtual 56, 3), (27, .ireturn, 1)]
theorem dX6_set : iX6_set.all (fun q => decide (decode cX6_set q.1 = .ok q.2)) = true := by decide +kernel
abbrev wsX6_set : List Cond := .code yX6_set cX6_set 3 (some .int) :: wT
abbrev cX6_claim : ByteArray := prog_1_method_3_code
def yX6_claim : MethodName := ⟨"PointAnswers", "claim", "(III)I"⟩
def iX6_claim : List (Nat × Instr × Nat) := [(0, .aload_n 0, 1), (1, .getfield 40, 3), (4, .aload_n 0, 1), (5, .getfield 12, 3), (8, .invokevirtual 48, 3), (11, .aload_n 0, 1), (12, .getfield 40, 3), (15, .aload_n 0, 1), (16, .getfield 12, 3), (19, .iload_n 1, 1), (20, .iload_n 2, 1), (21, .iload_n 3, 1), (22, .invokevirtual 60, 3), (25, .invokevirtual 56, 3), (28, .ireturn, 1)]
theorem dX6_claim : iX6_claim.all (fun q => decide (decode cX6_claim q.1 = .ok q.2)) = true := by decide +kernel
abbrev wsX6_claim : List Cond := .code yX6_claim cX6_claim 4 (some .int) :: wT
abbrev cX6_answer : ByteArray := prog_1_method_4_code
def yX6_answer : MethodName := ⟨"PointAnswers", "answer", "(III)I"⟩
def iX6_answer : List (Nat × Instr × Nat) := [(0, .aload_n 0, 1), (1, .getfield 40, 3), (4, .aload_n 0, 1), (5, .getfield 12, 3), (8, .invokevirtual 48, 3), (11, .aload_n 0, 1), (12, .getfield 40, 3), (15, .aload_n 0, 1), (16, .getfield 12, 3), (19, .iload_n 1, 1), (20, .iload_n 2, 1), (21, .iload_n 3, 1), (22, .invokevirtual 64, 3), (25, .invokevirtual 56, 3), (28, .ireturn, 1)]
theorem dX6_answer : iX6_answer.all (fun q => decide (decode cX6_answer q.1 = .ok q.2)) = true := by decide +kernel
abbrev wsX6_answer : List Cond := .code yX6_answer cX6_answer 4 (some .int) :: wT
abbrev cX6_withdraw : ByteArray := prog_1_method_5_code
def yX6_withdraw : MethodName := ⟨"PointAnswers", "withdraw", "(I)I"⟩
def iX6_withdraw : List (Nat × Instr × Nat) := [(0, .aload_n 0, 1), (1, .getfield 40, 3), (4, .aload_n 0, 1), (5, .getfield 12, 3), (8, .invokevirtual 48, 3), (11, .aload_n 0, 1), (12, .getfield 40, 3), (15, .aload_n 0, 1), (16, .getfield 12, 3), (19, .iload_n 1, 1), (20, .invokevirtual 67, 3), (23, .invokevirtual 56, 3), (26, .ireturn, 1)]
theorem dX6_withdraw : iX6_withdraw.all (fun q => decide (decode cX6_withdraw q.1 = .ok q.2)) = true := by decide +kernel
abbrev wsX6_withdraw : List Cond := .code yX6_withdraw cX6_withdraw 2 (some .int) :: wT
abbrev cX6_renew : ByteArray := prog_1_method_6_code
def yX6_renew : MethodName := ⟨"PointAnswers", "renew", "(I)I"⟩
def iX6_renew : List (Nat × Instr × Nat) := [(0, .aload_n 0, 1), (1, .getfield 40, 3), (4, .aload_n 0, 1), (5, .getfield 12, 3), (8, .invokevirtual 48, 3), (11, .aload_n 0, 1), (12, .getfield 40, 3), (15, .aload_n 0, 1), (16, .getfield 12, 3), (19, .iload_n 1, 1), (20, .invokevirtual 70, 3), (23, .invokevirtual 56, 3), (26, .ireturn, 1)]
theorem dX6_renew : iX6_renew.all (fun q => decide (decode cX6_renew q.1 = .ok q.2)) = true := by decide +kernel
abbrev wsX6_renew : List Cond := .code yX6_renew cX6_renew 2 (some .int) :: wT
abbrev cX6_overrule : ByteArray := prog_1_method_7_code
def yX6_overrule : MethodName := ⟨"PointAnswers", "overrule", "(I)I"⟩
def iX6_overrule : List (Nat × Instr × Nat) := [(0, .aload_n 0, 1), (1, .getfield 40, 3), (4, .aload_n 0, 1), (5, .getfield 12, 3), (8, .invokevirtual 48, 3), (11, .aload_n 0, 1), (12, .getfield 40, 3), (15, .aload_n 0, 1), (16, .getfield 12, 3), (19, .iload_n 1, 1), (20, .invokevirtual 73, 3), (23, .invokevirtual 56, 3), (26, .ireturn, 1)]
theorem dX6_overrule : iX6_overrule.all (fun q => decide (decode cX6_overrule q.1 = .ok q.2)) = true := by decide +kernel
abbrev wsX6_overrule : List Cond := .code yX6_overrule cX6_overrule 2 (some .int) :: wT
abbrev cX6_pass : ByteArray := prog_1_method_8_code
def yX6_pass : MethodName := ⟨"PointAnswers", "pass", "(I)I"⟩
def iX6_pass : List (Nat × Instr × Nat) := [(0, .aload_n 0, 1), (1, .getfield 40, 3), (4, .aload_n 0, 1), (5, .getfield 12, 3), (8, .invokevirtual 48, 3), (11, .aload_n 0, 1), (12, .getfield 40, 3), (15, .aload_n 0, 1), (16, .getfield 12, 3), (19, .iload_n 1, 1), (20, .invokevirtual 76, 3), (23, .invokevirtual 56, 3), (26, .ireturn, 1)]
theorem dX6_pass : iX6_pass.all (fun q => decide (decode cX6_pass q.1 = .ok q.2)) = true := by decide +kernel
abbrev wsX6_pass : List Cond := .code yX6_pass cX6_pass 2 (some .int) :: wT
abbrev cX6_lowestOf : ByteArray := prog_1_method_28_code
def yX6_lowestOf : MethodName := ⟨"PointAnswers", "lowestOf", "(I)I"⟩
def iX6_lowestOf : List (Nat × Instr × Nat) := [(0, .iconst 0, 1), (1, .istore_n 1, 1), (2, .iload_n 1, 1), (3, .bipush 24, 2), (5, .if_icmp .ge 19, 3), (8, .iload_n 0, 1), (9, .iload_n 1, 1), (10, .invokestatic 105, 3), (13, .ifCond .eq 5, 3), (16, .iload_n 1, 1), (17, .ireturn, 1), (18, .iinc 1 1, 3), (21, .goto (-19), 3), (24, .bipush (-6), 2), (26, .ireturn, 1)]
theorem dX6_lowestOf : iX6_lowestOf.all (fun q => decide (decode cX6_lowestOf q.1 = .ok q.2)) = true := by decide +kernel
abbrev wsX6_lowestOf : List Cond := .code yX6_lowestOf cX6_lowestOf 2 (some .int) :: wT
abbrev cX6_of : ByteArray := prog_1_method_9_code
def yX6_of : MethodName := ⟨"PointAnswers", "of", "(II)I"⟩
def iX6_of : List (Nat × Instr × Nat) := [(0, .aload_n 0, 1), (1, .getfield 12, 3), (4, .iload_n 1, 1), (5, .invokevirtual 79, 3), (8, .astore_n 3, 1), (9, .aload_n 3, 1), (10, .ifnonnull 5, 3), (13, .iconst (-1), 1), (14, .ireturn, 1), (15, .iload_n 2, 1), (16, .tableswitch 161 0 10 #[60, 65, 70, 75, 80, 85, 105, 114, 134, 143, 152], 60), (76, .aload_n 3, 1), (77, .getfield 83, 3), (80, .ireturn, 1), (81, .aload_n 3, 1), (82, .getfield 89, 3), (85, .ireturn, 1), (86, .aload_n 3, 1), (87, .getfield 92, 3), (90, .ireturn, 1), (91, .aload_n 3, 1), (92, .getfield 95, 3), (95, .ireturn, 1), (96, .aload_n 3, 1), (97, .getfield 98, 3), (100, .ireturn, 1), (101, .aload_n 0, 1), (102, .getfield 12, 3), (105, .invokevirtual 101, 3), (108, .iload_n 1, 1), (109, .invokestatic 105, 3), (112, .ifCond .eq 7, 3), (115, .iconst 1, 1), (116, .goto 4, 3), (119, .iconst 0, 1), (120, .ireturn, 1), (121, .aload_n 0, 1), (122, .getfield 12, 3), (125, .iload_n 1, 1), (126, .invokevirtual 109, 3), (129, .ireturn, 1), (130, .aload_n 0, 1), (131, .getfield 12, 3), (134, .iload_n 1, 1), (135, .invokevirtual 112, 3), (138, .aload_n 0, 1), (139, .getfield 12, 3), (142, .invokevirtual 101, 3), (145, .iand, 1), (146, .invokestatic 115, 3), (149, .ireturn, 1), (150, .aload_n 0, 1), (151, .getfield 12, 3), (154, .iload_n 1, 1), (155, .invokevirtual 112, 3), (158, .ireturn, 1), (159, .aload_n 0, 1), (160, .getfield 12, 3), (163, .iload_n 1, 1), (164, .invokevirtual 118, 3), (167, .ireturn, 1), (168, .aload_n 0, 1), (169, .getfield 12, 3), (172, .aload_n 3, 1), (173, .invokevirtual 121, 3), (176, .ireturn, 1), (177, .bipush (-2), 2), (179, .ireturn, 1)]
theorem dX6_of : iX6_of.all (fun q => decide (decode cX6_of q.1 = .ok q.2)) = true := by decide +kernel
abbrev wsX6_of : List Cond := .code yX6_of cX6_of 4 (some .int) :: wT
abbrev cX6_count : ByteArray := prog_1_method_10_code
def yX6_count : MethodName := ⟨"PointAnswers", "count", "(I)I"⟩
def iX6_count : List (Nat × Instr × Nat) := [(0, .iload_n 1, 1), (1, .tableswitch 238 0 13 #[71, 79, 87, 98, 109, 128, 139, 150, 174, 198, 206, 214, 222, 230], 71), (72, .aload_n 0, 1), (73, .getfield 12, 3), (76, .getfield 125, 3), (79, .ireturn, 1), (80, .aload_n 0, 1), (81, .getfield 12, 3), (84, .getfield 128, 3), (87, .ireturn, 1), (88, .aload_n 0, 1), (89, .getfield 12, 3), (92, .invokevirtual 131, 3), (95, .invokestatic 134, 3), (98, .ireturn, 1), (99, .aload_n 0, 1), (100, .getfield 12, 3), (103, .invokevirtual 101, 3), (106, .invokestatic 134, 3), (109, .ireturn, 1), (110, .aload_n 0, 1), (111, .getfield 12, 3), (114, .invokevirtual 131, 3), (117, .aload_n 0, 1), (118, .getfield 12, 3), (121, .invokevirtual 101, 3), (124, .iand, 1), (125, .invokestatic 134, 3), (128, .ireturn, 1), (129, .aload_n 0, 1), (130, .getfield 12, 3), (133, .invokevirtual 139, 3), (136, .invokestatic 134, 3), (139, .ireturn, 1), (140, .aload_n 0, 1), (141, .getfield 12, 3), (144, .invokevirtual 142, 3), (147, .invokestatic 134, 3), (150, .ireturn, 1), (151, .aload_n 0, 1), (152, .getfield 12, 3), (155, .iconst 0, 1), (156, .aload_n 0, 1), (157, .getfield 12, 3), (160, .invokevirtual 145, 3), (163, .aload_n 0, 1), (164, .getfield 12, 3), (167, .invokevirtual 148, 3), (170, .ior, 1), (171, .invokevirtual 151, 3), (174, .ireturn, 1), (175, .aload_n 0, 1), (176, .getfield 12, 3), (179, .iconst 1, 1), (180, .aload_n 0, 1), (181, .getfield 12, 3), (184, .invokevirtual 145, 3), (187, .aload_n 0, 1), (188, .getfield 12, 3), (191, .invokevirtual 148, 3), (194, .ior, 1), (195, .invokevirtual 151, 3), (198, .ireturn, 1), (199, .aload_n 0, 1), (200, .getfield 12, 3), (203, .getfield 154, 3), (206, .ireturn, 1), (207, .aload_n 0, 1), (208, .getfield 12, 3), (211, .getfield 157, 3), (214, .ireturn, 1), (215, .aload_n 0, 1), (216, .getfield 12, 3), (219, .getfield 160, 3), (222, .ireturn, 1), (223, .aload_n 0, 1), (224, .getfield 26, 3), (227, .getfield 163, 3), (230, .ireturn, 1), (231, .aload_n 0, 1), (232, .getfield 40, 3), (235, .getfield 166, 3), (238, .ireturn, 1), (239, .bipush (-2), 2), (241, .ireturn, 1)]
theorem dX6_count : iX6_count.all (fun q => decide (decode cX6_count q.1 = .ok q.2)) = true := by decide +kernel
abbrev wsX6_count : List Cond := .code yX6_count cX6_count 2 (some .int) :: wT
abbrev cX6_points : ByteArray := prog_1_method_11_code
def yX6_points : MethodName := ⟨"PointAnswers", "points", "(I)I"⟩
def iX6_points : List (Nat × Instr × Nat) := [(0, .iload_n 1, 1), (1, .tableswitch 97 0 5 #[39, 47, 63, 71, 79, 88], 39), (40, .aload_n 0, 1), (41, .getfield 12, 3), (44, .invokevirtual 101, 3), (47, .ireturn, 1), (48, .aload_n 0, 1), (49, .getfield 12, 3), (52, .invokevirtual 131, 3), (55, .aload_n 0, 1), (56, .getfield 12, 3), (59, .invokevirtual 101, 3), (62, .iand, 1), (63, .ireturn, 1), (64, .aload_n 0, 1), (65, .getfield 12, 3), (68, .invokevirtual 139, 3), (71, .ireturn, 1), (72, .aload_n 0, 1), (73, .getfield 12, 3), (76, .invokevirtual 142, 3), (79, .ireturn, 1), (80, .aload_n 0, 1), (81, .getfield 12, 3), (84, .iconst 0, 1), (85, .invokevirtual 169, 3), (88, .ireturn, 1), (89, .aload_n 0, 1), (90, .getfield 12, 3), (93, .iconst 1, 1), (94, .invokevirtual 169, 3), (97, .ireturn, 1), (98, .bipush (-2), 2), (100, .ireturn, 1)]
theorem dX6_points : iX6_points.all (fun q => decide (decode cX6_points q.1 = .ok q.2)) = true := by decide +kernel
abbrev wsX6_points : List Cond := .code yX6_points cX6_points 2 (some .int) :: wT
abbrev cX6_floatBits : ByteArray := prog_1_method_29_code
def yX6_floatBits : MethodName := ⟨"PointAnswers", "floatBits", "(II)I"⟩
def iX6_floatBits : List (Nat × Instr × Nat) := [(0, .iload_n 0, 1), (1, .ifCond .le 7, 3), (4, .iload_n 1, 1), (5, .ifCond .gt 5, 3), (8, .iconst 0, 1), (9, .ireturn, 1), (10, .iload_n 0, 1), (11, .i2l, 1), (12, .lstore_n 2, 1), (13, .bipush 127, 2), (15, .istore 4, 2), (17, .lload_n 2, 1), (18, .iload_n 1, 1), (19, .i2l, 1), (20, .lcmp, 1), (21, .ifCond .ge 20, 3), (24, .iload 4, 2), (26, .ifCond .le 15, 3), (29, .lload_n 2, 1), (30, .ldc2_w 257, 3), (33, .lmul, 1), (34, .lstore_n 2, 1), (35, .iinc 4 (-1), 3), (38, .goto (-21), 3), (41, .lload_n 2, 1), (42, .bipush 23, 2), (44, .lshl, 1), (45, .lstore 5, 2), (47, .lload 5, 2), (49, .iload_n 1, 1), (50, .i2l, 1), (51, .ldiv, 1), (52, .lstore 7, 2), (54, .ldc2_w 257, 3), (57, .lload 5, 2), (59, .iload_n 1, 1), (60, .i2l, 1), (61, .lrem, 1), (62, .lmul, 1), (63, .iload_n 1, 1), (64, .i2l, 1), (65, .lcmp, 1), (66, .ifCond .le 9, 3), (69, .lload 7, 2), (71, .lconst 1, 1), (72, .ladd, 1), (73, .lstore 7, 2), (75, .iload 4, 2), (77, .bipush 23, 2), (79, .ishl, 1), (80, .lload 7, 2), (82, .ldc2_w 259, 3), (85, .lsub, 1), (86, .l2i, 1), (87, .iadd, 1), (88, .ireturn, 1)]
theorem dX6_floatBits : iX6_floatBits.all (fun q => decide (decode cX6_floatBits q.1 = .ok q.2)) = true := by decide +kernel
abbrev wsX6_floatBits : List Cond := .code yX6_floatBits cX6_floatBits 9 (some .int) :: wT
abbrev cX6_share : ByteArray := prog_1_method_12_code
def yX6_share : MethodName := ⟨"PointAnswers", "share", "(I)I"⟩
def iX6_share : List (Nat × Instr × Nat) := [(0, .iload_n 1, 1), (1, .ifCond .eq 10, 3), (4, .iload_n 1, 1), (5, .iconst 1, 1), (6, .if_icmp .eq 5, 3), (9, .iconst (-1), 1), (10, .ireturn, 1), (11, .aload_n 0, 1), (12, .getfield 12, 3), (15, .invokevirtual 131, 3), (18, .aload_n 0, 1), (19, .getfield 12, 3), (22, .iload_n 1, 1), (23, .invokevirtual 169, 3), (26, .iand, 1), (27, .istore_n 2, 1), (28, .iload_n 2, 1), (29, .ifCond .ne 6, 3), (32, .bipush (-6), 2), (34, .ireturn, 1), (35, .iload_n 2, 1), (36, .aload_n 0, 1), (37, .getfield 12, 3), (40, .invokevirtual 101, 3), (43, .iand, 1), (44, .invokestatic 134, 3), (47, .iload_n 2, 1), (48, .invokestatic 134, 3), (51, .invokestatic 172, 3), (54, .ireturn, 1)]
theorem dX6_share : iX6_share.all (fun q => decide (decode cX6_share q.1 = .ok q.2)) = true := by decide +kernel
abbrev wsX6_share : List Cond := .code yX6_share cX6_share 3 (some .int) :: wT
abbrev cX6_toFall : ByteArray := prog_1_method_13_code
def yX6_toFall : MethodName := ⟨"PointAnswers", "toFall", "(I)I"⟩
def iX6_toFall : List (Nat × Instr × Nat) := [(0, .aload_n 0, 1), (1, .getfield 12, 3), (4, .iload_n 1, 1), (5, .invokevirtual 79, 3), (8, .ifnonnull 5, 3), (11, .iconst (-1), 1), (12, .ireturn, 1), (13, .aload_n 0, 1), (14, .getfield 19, 3), (17, .aload_n 0, 1), (18, .getfield 12, 3), (21, .invokevirtual 175, 3), (24, .aload_n 0, 1), (25, .getfield 19, 3), (28, .iload_n 1, 1), (29, .invokevirtual 178, 3), (32, .ireturn, 1)]
theorem dX6_toFall : iX6_toFall.all (fun q => decide (decode cX6_toFall q.1 = .ok q.2)) = true := by decide +kernel
abbrev wsX6_toFall : List Cond := .code yX6_toFall cX6_toFall 2 (some .int) :: wT
abbrev cX6_toStand : ByteArray := prog_1_method_14_code
def yX6_toStand : MethodName := ⟨"PointAnswers", "toStand", "(I)I"⟩
def iX6_toStand : List (Nat × Instr × Nat) := [(0, .aload_n 0, 1), (1, .getfield 12, 3), (4, .iload_n 1, 1), (5, .invokevirtual 79, 3), (8, .ifnonnull 5, 3), (11, .iconst (-1), 1), (12, .ireturn, 1), (13, .aload_n 0, 1), (14, .getfield 12, 3), (17, .invokevirtual 139, 3), (20, .iload_n 1, 1), (21, .invokestatic 105, 3), (24, .ifCond .eq 6, 3), (27, .bipush (-5), 2), (29, .ireturn, 1), (30, .aload_n 0, 1), (31, .getfield 19, 3), (34, .aload_n 0, 1), (35, .getfield 12, 3), (38, .invokevirtual 175, 3), (41, .aload_n 0, 1), (42, .getfield 19, 3), (45, .iload_n 1, 1), (46, .invokevirtual 181, 3), (49, .ireturn, 1)]
theorem dX6_toStand : iX6_toStand.all (fun q => decide (decode cX6_toStand q.1 = .ok q.2)) = true := by decide +kernel
abbrev wsX6_toStand : List Cond := .code yX6_toStand cX6_toStand 2 (some .int) :: wT
abbrev cX6_bestAnswer : ByteArray := prog_1_method_15_code
def yX6_bestAnswer : MethodName := ⟨"PointAnswers", "bestAnswer", "(I)I"⟩
def iX6_bestAnswer : List (Nat × Instr × Nat) := [(0, .iload_n 1, 1), (1, .ifCond .eq 11, 3), (4, .iload_n 1, 1), (5, .iconst 1, 1), (6, .if_icmp .eq 6, 3), (9, .bipush (-2), 2), (11, .ireturn, 1), (12, .bipush (-6), 2), (14, .istore_n 2, 1), (15, .bipush (-6), 2), (17, .istore_n 3, 1), (18, .aload_n 0, 1), (19, .getfield 12, 3), (22, .invokevirtual 139, 3), (25, .istore 4, 2), (27, .aload_n 0, 1), (28, .getfield 12, 3), (31, .iload 4, 2), (33, .iconst 0, 1), (34, .invokevirtual 184, 3), (37, .istore 5, 2), (39, .aload_n 0, 1), (40, .getfield 12, 3), (43, .invokevirtual 187, 3), (46, .iload 4, 2), (48, .iconst (-1), 1), (49, .ixor, 1), (50, .iand, 1), (51, .istore 6, 2), (53, .iconst 0, 1), (54, .istore 7, 2), (56, .iload 7, 2), (58, .bipush 24, 2), (60, .if_icmp .ge 60, 3), (63, .iload 6, 2), (65, .iload 7, 2), (67, .invokestatic 105, 3), (70, .ifCond .eq 44, 3), (73, .aload_n 0, 1), (74, .getfield 12, 3), (77, .iload 4, 2), (79, .iconst 1, 1), (80, .iload 7, 2), (82, .ishl, 1), (83, .invokevirtual 184, 3), (86, .iload 5, 2), (88, .ixor, 1), (89, .aload_n 0, 1), (90, .getfield 12, 3), (93, .invokevirtual 131, 3), (96, .iand, 1), (97, .invokestatic 134, 3), (100, .istore 8, 2), (102, .iload 8, 2), (104, .iload_n 3, 1), (105, .if_icmp .le 9, 3), (108, .iload 7, 2), (110, .istore_n 2, 1), (111, .iload 8, 2), (113, .istore_n 3, 1), (114, .iinc 7 1, 3), (117, .goto (-61), 3), (120, .iload_n 1, 1), (121, .ifCond .ne 7, 3), (124, .iload_n 2, 1), (125, .goto 4, 3), (128, .iload_n 3, 1), (129, .ireturn, 1)]
theorem dX6_bestAnswer : iX6_bestAnswer.all (fun q => decide (decode cX6_bestAnswer q.1 = .ok q.2)) = true := by decide +kernel
abbrev wsX6_bestAnswer : List Cond := .code yX6_bestAnswer cX6_bestAnswer 9 (some .int) :: wT
abbrev cX6_changesIn : ByteArray := prog_1_method_16_code
def yX6_changesIn : MethodName := ⟨"PointAnswers", "changesIn", "()I"⟩
def iX6_changesIn : List (Nat × Instr × Nat) := [(0, .aload_n 0, 1), (1, .getfield 12, 3), (4, .invokevirtual 145, 3), (7, .aload_n 0, 1), (8, .getfield 12, 3), (11, .invokevirtual 148, 3), (14, .ior, 1), (15, .aload_n 0, 1), (16, .getfield 12, 3), (19, .invokevirtual 190, 3), (22, .ior, 1), (23, .istore_n 1, 1), (24, .aload_n 0, 1), (25, .getfield 12, 3), (28, .invokevirtual 101, 3), (31, .istore_n 2, 1), (32, .iconst 1, 1), (33, .istore_n 3, 1), (34, .iload_n 3, 1), (35, .bipush 61, 2), (37, .if_icmp .gt 41, 3), (40, .aload_n 0, 1), (41, .getfield 12, 3), (44, .iload_n 1, 1), (45, .aload_n 0, 1), (46, .getfield 12, 3), (49, .aload_n 0, 1), (50, .getfield 12, 3), (53, .getfield 125, 3), (56, .iload_n 3, 1), (57, .iadd, 1), (58, .invokevirtual 193, 3), (61, .ior, 1), (62, .iconst 0, 1), (63, .invokevirtual 184, 3), (66, .iload_n 2, 1), (67, .if_icmp .eq 5, 3), (70, .iload_n 3, 1), (71, .ireturn, 1), (72, .iinc 3 1, 3), (75, .goto (-41), 3), (78, .bipush (-6), 2), (80, .ireturn, 1)]
theorem dX6_changesIn : iX6_changesIn.all (fun q => decide (decode cX6_changesIn q.1 = .ok q.2)) = true := by decide +kernel
abbrev wsX6_changesIn : List Cond := .code yX6_changesIn cX6_changesIn 4 (some .int) :: wT
abbrev cX6_leastPages : ByteArray := prog_1_method_17_code
def yX6_leastPages : MethodName := ⟨"PointAnswers", "leastPages", "()I"⟩
def iX6_leastPages : List (Nat × Instr × Nat) := [(0, .aload_n 0, 1), (1, .getfield 12, 3), (4, .invokevirtual 145, 3), (7, .istore_n 1, 1), (8, .iconst 1, 1), (9, .aload_n 0, 1), (10, .getfield 12, 3), (13, .iconst 0, 1), (14, .iload_n 1, 1), (15, .invokevirtual 151, 3), (18, .aload_n 0, 1), (19, .getfield 12, 3), (22, .iconst 1, 1), (23, .iload_n 1, 1), (24, .invokevirtual 151, 3), (27, .invokestatic 196, 3), (30, .invokestatic 196, 3), (33, .istore_n 2, 1), (34, .iload_n 2, 1), (35, .bipush 99, 2), (37, .if_icmp .le 8, 3), (40, .bipush (-6), 2), (42, .goto 4, 3), (45, .iload_n 2, 1), (46, .ireturn, 1)]
theorem dX6_leastPages : iX6_leastPages.all (fun q => decide (decode cX6_leastPages q.1 = .ok q.2)) = true := by decide +kernel
abbrev wsX6_leastPages : List Cond := .code yX6_leastPages cX6_leastPages 3 (some .int) :: wT
abbrev cX6_put : ByteArray := prog_1_method_18_code
def yX6_put : MethodName := ⟨"PointAnswers", "put", "(J)I"⟩
def iX6_put : List (Nat × Instr × Nat) := [(0, .lload_n 1, 1), (1, .invokestatic 201, 3), (4, .istore_n 3, 1), (5, .iload_n 3, 1), (6, .ifCond .ne 6, 3), (9, .bipush (-2), 2), (11, .ireturn, 1), (12, .aload_n 0, 1), (13, .getfield 26, 3), (16, .getfield 163, 3), (19, .iload_n 3, 1), (20, .iadd, 1), (21, .bipush 80, 2), (23, .if_icmp .le 6, 3), (26, .bipush (-4), 2), (28, .ireturn, 1), (29, .iload_n 3, 1), (30, .iconst 1, 1), (31, .isub, 1), (32, .istore 4, 2), (34, .iload 4, 2), (36, .ifCond .lt 22, 3), (39, .aload_n 0, 1), (40, .getfield 26, 3), (43, .lload_n 1, 1), (44, .iload 4, 2), (46, .invokestatic 205, 3), (49, .invokevirtual 209, 3), (52, .iinc 4 (-1), 3), (55, .goto (-21), 3), (58, .aload_n 0, 1), (59, .getfield 26, 3), (62, .getfield 163, 3), (65, .ireturn, 1)]
theorem dX6_put : iX6_put.all (fun q => decide (decode cX6_put q.1 = .ok q.2)) = true := by decide +kernel
abbrev wsX6_put : List Cond := .code yX6_put cX6_put 5 (some .int) :: wT
abbrev cX6_wipe : ByteArray := prog_1_method_19_code
def yX6_wipe : MethodName := ⟨"PointAnswers", "wipe", "()I"⟩
def iX6_wipe : List (Nat × Instr × Nat) := [(0, .aload_n 0, 1), (1, .getfield 26, 3), (4, .invokevirtual 213, 3), (7, .ireturn, 1)]
theorem dX6_wipe : iX6_wipe.all (fun q => decide (decode cX6_wipe q.1 = .ok q.2)) = true := by decide +kernel
abbrev wsX6_wipe : List Cond := .code yX6_wipe cX6_wipe 1 (some .int) :: wT
abbrev cX6_fault : ByteArray := prog_1_method_20_code
def yX6_fault : MethodName := ⟨"PointAnswers", "fault", "()I"⟩
def iX6_fault : List (Nat × Instr × Nat) := [(0, .aload_n 0, 1), (1, .getfield 33, 3), (4, .aload_n 0, 1), (5, .getfield 26, 3), (8, .invokevirtual 216, 3), (11, .ireturn, 1)]
theorem dX6_fault : iX6_fault.all (fun q => decide (decode cX6_fault q.1 = .ok q.2)) = true := by decide +kernel
abbrev wsX6_fault : List Cond := .code yX6_fault cX6_fault 1 (some .int) :: wT
abbrev cX6_follow : ByteArray := prog_1_method_26_code
def yX6_follow : MethodName := ⟨"PointAnswers", "follow", "()I"⟩
def iX6_follow : List (Nat × Instr × Nat) := [(0, .aload_n 0, 1), (1, .getfield 33, 3), (4, .getfield 248, 3), (7, .lookupswitch 175 #[(97, 86), (99, 57), (111, 145), (114, 130), (116, 160), (119, 115)], 57), (64, .aload_n 0, 1), (65, .getfield 12, 3), (68, .aload_n 0, 1), (69, .getfield 33, 3), (72, .getfield 252, 3), (75, .aload_n 0, 1), (76, .getfield 33, 3), (79, .getfield 255, 3), (82, .aload_n 0, 1), (83, .getfield 33, 3), (86, .getfield 256, 3), (89, .invokevirtual 60, 3), (92, .ireturn, 1), (93, .aload_n 0, 1), (94, .getfield 12, 3), (97, .aload_n 0, 1), (98, .getfield 33, 3), (101, .getfield 252, 3), (104, .aload_n 0, 1), (105, .getfield 33, 3), (108, .getfield 255, 3), (111, .aload_n 0, 1), (112, .getfield 33, 3), (115, .getfield 256, 3), (118, .invokevirtual 64, 3), (121, .ireturn, 1), (122, .aload_n 0, 1), (123, .getfield 12, 3), (126, .aload_n 0, 1), (127, .getfield 33, 3), (130, .getfield 252, 3), (133, .invokevirtual 67, 3), (136, .ireturn, 1), (137, .aload_n 0, 1), (138, .getfield 12, 3), (141, .aload_n 0, 1), (142, .getfield 33, 3), (145, .getfield 252, 3), (148, .invokevirtual 70, 3), (151, .ireturn, 1), (152, .aload_n 0, 1), (153, .getfield 12, 3), (156, .aload_n 0, 1), (157, .getfield 33, 3), (160, .getfield 252, 3), (163, .invokevirtual 73, 3), (166, .ireturn, 1), (167, .aload_n 0, 1), (168, .getfield 12, 3), (171, .aload_n 0, 1), (172, .getfield 33, 3), (175, .getfield 252, 3), (178, .invokevirtual 76, 3), (181, .ireturn, 1), (182, .bipush (-3), 2), (184, .ireturn, 1)]
theorem dX6_follow : iX6_follow.all (fun q => decide (decode cX6_follow q.1 = .ok q.2)) = true := by decide +kernel
abbrev wsX6_follow : List Cond := .code yX6_follow cX6_follow 1 (some .int) :: wT
abbrev cX6_carryOut : ByteArray := prog_1_method_21_code
def yX6_carryOut : MethodName := ⟨"PointAnswers", "carryOut", "()I"⟩
def iX6_carryOut : List (Nat × Instr × Nat) := [(0, .aload_n 0, 1), (1, .getfield 33, 3), (4, .aload_n 0, 1), (5, .getfield 26, 3), (8, .invokevirtual 216, 3), (11, .bipush (-6), 2), (13, .if_icmp .eq 6, 3), (16, .bipush (-3), 2), (18, .ireturn, 1), (19, .aload_n 0, 1), (20, .getfield 40, 3), (23, .aload_n 0, 1), (24, .getfield 12, 3), (27, .invokevirtual 48, 3), (30, .aload_n 0, 1), (31, .getfield 33, 3), (34, .invokevirtual 220, 3), (37, .iconst 0, 1), (38, .istore_n 1, 1), (39, .iload_n 1, 1), (40, .bipush 80, 2), (42, .if_icmp .ge 44, 3), (45, .aload_n 0, 1), (46, .getfield 33, 3), (49, .aload_n 0, 1), (50, .getfield 26, 3), (53, .invokevirtual 223, 3), (56, .ifCond .eq 30, 3), (59, .aload_n 0, 1), (60, .invokevirtual 227, 3), (63, .ifCond .lt 23, 3), (66, .iinc 1 1, 3), (69, .aload_n 0, 1), (70, .getfield 33, 3), (73, .aload_n 0, 1), (74, .getfield 26, 3), (77, .bipush 59, 2), (79, .invokevirtual 230, 3), (82, .pop, 1), (83, .goto (-44), 3), (86, .aload_n 0, 1), (87, .getfield 26, 3), (90, .invokevirtual 213, 3), (93, .pop, 1), (94, .aload_n 0, 1), (95, .getfield 40, 3), (98, .iload_n 1, 1), (99, .invokevirtual 56, 3), (102, .ireturn, 1)]
theorem dX6_carryOut : iX6_carryOut.all (fun q => decide (decode cX6_carryOut q.1 = .ok q.2)) = true := by decide +kernel
abbrev wsX6_carryOut : List Cond := .code yX6_carryOut cX6_carryOut 2 (some .int) :: wT
abbrev cX6_undo : ByteArray := prog_1_method_22_code
def yX6_undo : MethodName := ⟨"PointAnswers", "undo", "()I"⟩
def iX6_undo : List (Nat × Instr × Nat) := [(0, .aload_n 0, 1), (1, .getfield 40, 3), (4, .aload_n 0, 1), (5, .getfield 12, 3), (8, .invokevirtual 234, 3), (11, .ireturn, 1)]
theorem dX6_undo : iX6_undo.all (fun q => decide (decode cX6_undo q.1 = .ok q.2)) = true := by decide +kernel
abbrev wsX6_undo : List Cond := .code yX6_undo cX6_undo 1 (some .int) :: wT
abbrev cX6_slotRow : ByteArray := prog_1_method_25_code
def yX6_slotRow : MethodName := ⟨"PointAnswers", "slotRow", "(I)LPointAnswers$Bundle;"⟩
def iX6_slotRow : List (Nat × Instr × Nat) := [(0, .iload_n 1, 1), (1, .ifCond .lt 21, 3), (4, .iload_n 1, 1), (5, .aload_n 0, 1), (6, .getfield 44, 3), (9, .arraylength, 1), (10, .if_icmp .ge 12, 3), (13, .aload_n 0, 1), (14, .getfield 44, 3), (17, .iload_n 1, 1), (18, .aaload, 1), (19, .goto 4, 3), (22, .aconst_null, 1), (23, .areturn, 1)]
theorem dX6_slotRow : iX6_slotRow.all (fun q => decide (decode cX6_slotRow q.1 = .ok q.2)) = true := by decide +kernel
abbrev wsX6_slotRow : List Cond := .code yX6_slotRow cX6_slotRow 2 (some (.object "PointAnswers$Bundle")) :: wT
abbrev cX6_save : ByteArray := prog_1_method_23_code
def yX6_save : MethodName := ⟨"PointAnswers", "save", "(I)I"⟩
def iX6_save : List (Nat × Instr × Nat) := [(0, .aload_n 0, 1), (1, .iload_n 1, 1), (2, .invokevirtual 238, 3), (5, .astore_n 2, 1), (6, .aload_n 2, 1), (7, .ifnonnull 6, 3), (10, .bipush (-2), 2), (12, .ireturn, 1), (13, .aload_n 2, 1), (14, .aload_n 0, 1), (15, .getfield 12, 3), (18, .invokevirtual 242, 3), (21, .aload_n 0, 1), (22, .dup, 1), (23, .getfield 245, 3), (26, .iconst 1, 1), (27, .iload_n 1, 1), (28, .ishl, 1), (29, .ior, 1), (30, .putfield 245, 3), (33, .aload_n 0, 1), (34, .getfield 12, 3), (37, .getfield 128, 3), (40, .ireturn, 1)]
theorem dX6_save : iX6_save.all (fun q => decide (decode cX6_save q.1 = .ok q.2)) = true := by decide +kernel
abbrev wsX6_save : List Cond := .code yX6_save cX6_save 3 (some .int) :: wT
abbrev cX6_restore : ByteArray := prog_1_method_24_code
def yX6_restore : MethodName := ⟨"PointAnswers", "restore", "(I)I"⟩
def iX6_restore : List (Nat × Instr × Nat) := [(0, .aload_n 0, 1), (1, .iload_n 1, 1), (2, .invokevirtual 238, 3), (5, .astore_n 2, 1), (6, .aload_n 2, 1), (7, .ifnonnull 6, 3), (10, .bipush (-2), 2), (12, .ireturn, 1), (13, .aload_n 0, 1), (14, .getfield 245, 3), (17, .iload_n 1, 1), (18, .invokestatic 105, 3), (21, .ifCond .ne 6, 3), (24, .bipush (-5), 2), (26, .ireturn, 1), (27, .aload_n 0, 1), (28, .getfield 40, 3), (31, .aload_n 0, 1), (32, .getfield 12, 3), (35, .invokevirtual 48, 3), (38, .aload_n 0, 1), (39, .getfield 12, 3), (42, .aload_n 2, 1), (43, .invokevirtual 242, 3), (46, .aload_n 0, 1), (47, .getfield 40, 3), (50, .aload_n 0, 1), (51, .getfield 12, 3), (54, .getfield 128, 3), (57, .invokevirtual 56, 3), (60, .ireturn, 1)]
theorem dX6_restore : iX6_restore.all (fun q => decide (decode cX6_restore q.1 = .ok q.2)) = true := by decide +kernel
abbrev wsX6_restore : List Cond := .code yX6_restore cX6_restore 3 (some .int) :: wT
abbrev cX7_init : ByteArray := prog_9_method_1_code
def yX7_init : MethodName := ⟨"PointAnswersModel", "<init>", "()V"⟩
def iX7_init : List (Nat × Instr × Nat) := [(0, .aload_n 0, 1), (1, .invokespecial 1, 3), (4, .aload_n 0, 1), (5, .sipush 173, 3), (8, .newarray .int, 2), (10, .putfield 7, 3), (13, .aload_n 0, 1), (14, .sipush 1038, 3), (17, .newarray .int, 2), (19, .putfield 13, 3), (22, .aload_n 0, 1), (23, .sipush 346, 3), (26, .newarray .int, 2), (28, .putfield 16, 3), (31, .aload_n 0, 1), (32, .iconst 2, 1), (33, .newarray .boolean, 2), (35, .putfield 19, 3), (38, .aload_n 0, 1), (39, .bipush 80, 2), (41, .newarray .char, 2), (43, .putfield 23, 3), (46, .aload_n 0, 1), (47, .bipush 24, 2), (49, .newarray .int, 2), (51, .putfield 27, 3), (54, .aload_n 0, 1), (55, .iconst 2, 1), (56, .newarray .int, 2), (58, .putfield 30, 3), (61, .aload_n 0, 1), (62, .bipush 24, 2), (64, .newarray .int, 2), (66, .putfield 33, 3), (69, .aload_n 0, 1), (70, .bipush 24, 2), (72, .newarray .int, 2), (74, .putfield 36, 3), (77, .aload_n 0, 1), (78, .bipush 112, 2), (80, .newarray .int, 2), (82, .putfield 39, 3), (85, .aload_n 0, 1), (86, .getfield 7, 3), (89, .iconst 0, 1), (90, .bipush 14, 2), (92, .iastore, 1), (93, .aload_n 0, 1), (94, .getfield 7, 3), (97, .iconst 1, 1), (98, .bipush 30, 2), (100, .iastore, 1), (101, .return_, 1)]
theorem dX7_init : iX7_init.all (fun q => decide (decode cX7_init q.1 = .ok q.2)) = true := by decide +kernel
abbrev wsX7_init : List Cond := .code yX7_init cX7_init 1 none :: wT
abbrev cX7_in : ByteArray := prog_9_method_2_code
def yX7_in : MethodName := ⟨"PointAnswersModel", "in", "(III)Z"⟩
def iX7_in : List (Nat × Instr × Nat) := [(0, .iload_n 0, 1), (1, .iload_n 1, 1), (2, .if_icmp .lt 12, 3), (5, .iload_n 0, 1), (6, .iload_n 2, 1), (7, .if_icmp .gt 7, 3), (10, .iconst 1, 1), (11, .goto 4, 3), (14, .iconst 0, 1), (15, .ireturn, 1)]
theorem dX7_in : iX7_in.all (fun q => decide (decode cX7_in q.1 = .ok q.2)) = true := by decide +kernel
abbrev wsX7_in : List Cond := .code yX7_in cX7_in 3 (some .boolean) :: wT
abbrev cX7_isPoint : ByteArray := prog_9_method_3_code
def yX7_isPoint : MethodName := ⟨"PointAnswersModel", "isPoint", "(I)Z"⟩
def iX7_isPoint : List (Nat × Instr × Nat) := [(0, .iload_n 1, 1), (1, .ifCond .lt 17, 3), (4, .iload_n 1, 1), (5, .aload_n 0, 1), (6, .getfield 7, 3), (9, .iconst 3, 1), (10, .iaload, 1), (11, .if_icmp .ge 7, 3), (14, .iconst 1, 1), (15, .goto 4, 3), (18, .iconst 0, 1), (19, .ireturn, 1)]
theorem dX7_isPoint : iX7_isPoint.all (fun q => decide (decode cX7_isPoint q.1 = .ok q.2)) = true := by decide +kernel
abbrev wsX7_isPoint : List Cond := .code yX7_isPoint cX7_isPoint 2 (some .boolean) :: wT
abbrev cX7_its : ByteArray := prog_9_method_4_code
def yX7_its : MethodName := ⟨"PointAnswersModel", "its", "(II)I"⟩
def iX7_its : List (Nat × Instr × Nat) := [(0, .aload_n 0, 1), (1, .getfield 7, 3), (4, .iconst 5, 1), (5, .bipush 7, 2), (7, .iload_n 1, 1), (8, .imul, 1), (9, .iadd, 1), (10, .iload_n 2, 1), (11, .iadd, 1), (12, .iaload, 1), (13, .ireturn, 1)]
theorem dX7_its : iX7_its.all (fun q => decide (decode cX7_its q.1 = .ok q.2)) = true := by decide +kernel
abbrev wsX7_its : List Cond := .code yX7_its cX7_its 3 (some .int) :: wT
abbrev cX7_lay : ByteArray := prog_9_method_5_code
def yX7_lay : MethodName := ⟨"PointAnswersModel", "lay", "(III)V"⟩
def iX7_lay : List (Nat × Instr × Nat) := [(0, .aload_n 0, 1), (1, .getfield 7, 3), (4, .iconst 5, 1), (5, .bipush 7, 2), (7, .iload_n 1, 1), (8, .imul, 1), (9, .iadd, 1), (10, .iload_n 2, 1), (11, .iadd, 1), (12, .iload_n 3, 1), (13, .iastore, 1), (14, .return_, 1)]
theorem dX7_lay : iX7_lay.all (fun q => decide (decode cX7_lay q.1 = .ok q.2)) = true := by decide +kernel
abbrev wsX7_lay : List Cond := .code yX7_lay cX7_lay 4 none :: wT
abbrev cX7_isClaim : ByteArray := prog_9_method_6_code
def yX7_isClaim : MethodName := ⟨"PointAnswersModel", "isClaim", "(I)Z"⟩
def iX7_isClaim : List (Nat × Instr × Nat) := [(0, .aload_n 0, 1), (1, .iload_n 1, 1), (2, .iconst 4, 1), (3, .invokevirtual 42, 3), (6, .bipush (-6), 2), (8, .if_icmp .ne 7, 3), (11, .iconst 1, 1), (12, .goto 4, 3), (15, .iconst 0, 1), (16, .ireturn, 1)]
theorem dX7_isClaim : iX7_isClaim.all (fun q => decide (decode cX7_isClaim q.1 = .ok q.2)) = true := by decide +kernel
abbrev wsX7_isClaim : List Cond := .code yX7_isClaim cX7_isClaim 2 (some .boolean) :: wT
abbrev cX7_isWithdrawn : ByteArray := prog_9_method_7_code
def yX7_isWithdrawn : MethodName := ⟨"PointAnswersModel", "isWithdrawn", "(I)Z"⟩
def iX7_isWithdrawn : List (Nat × Instr × Nat) := [(0, .aload_n 0, 1), (1, .iload_n 1, 1), (2, .bipush 6, 2), (4, .invokevirtual 42, 3), (7, .iconst 1, 1), (8, .if_icmp .ne 7, 3), (11, .iconst 1, 1), (12, .goto 4, 3), (15, .iconst 0, 1), (16, .ireturn, 1)]
theorem dX7_isWithdrawn : iX7_isWithdrawn.all (fun q => decide (decode cX7_isWithdrawn q.1 = .ok q.2)) = true := by decide +kernel
abbrev wsX7_isWithdrawn : List Cond := .code yX7_isWithdrawn cX7_isWithdrawn 2 (some .boolean) :: wT
abbrev cX7_bits : ByteArray := prog_9_method_8_code
def yX7_bits : MethodName := ⟨"PointAnswersModel", "bits", "(I)I"⟩
def iX7_bits : List (Nat × Instr × Nat) := [(0, .iconst 0, 1), (1, .istore_n 1, 1), (2, .iload_n 0, 1), (3, .istore_n 2, 1), (4, .iload_n 2, 1), (5, .ifCond .eq 15, 3), (8, .iinc 1 1, 3), (11, .iload_n 2, 1), (12, .iload_n 2, 1), (13, .iconst 1, 1), (14, .isub, 1), (15, .iand, 1), (16, .istore_n 2, 1), (17, .goto (-13), 3), (20, .iload_n 1, 1), (21, .ireturn, 1)]
theorem dX7_bits : iX7_bits.all (fun q => decide (decode cX7_bits q.1 = .ok q.2)) = true := by decide +kernel
abbrev wsX7_bits : List Cond := .code yX7_bits cX7_bits 3 (some .int) :: wT
abbrev cX7_record : ByteArray := prog_9_method_9_code
def yX7_record : MethodName := ⟨"PointAnswersModel", "record", "()V"⟩
def iX7_record : List (Nat × Instr × Nat) := [(0, .aload_n 0, 1), (1, .getfield 46, 3), (4, .bipush 6, 2), (6, .if_icmp .ne 44, 3), (9, .iconst 0, 1), (10, .istore_n 1, 1), (11, .iload_n 1, 1), (12, .sipush 865, 3), (15, .if_icmp .ge 25, 3), (18, .aload_n 0, 1), (19, .getfield 13, 3), (22, .iload_n 1, 1), (23, .aload_n 0, 1), (24, .getfield 13, 3), (27, .iload_n 1, 1), (28, .sipush 173, 3), (31, .iadd, 1), (32, .iaload, 1), (33, .iastore, 1), (34, .iinc 1 1, 3), (37, .goto (-26), 3), (40, .aload_n 0, 1), (41, .dup, 1), (42, .getfield 46, 3), (45, .iconst 1, 1), (46, .isub, 1), (47, .putfield 46, 3), (50, .iconst 0, 1), (51, .istore_n 1, 1), (52, .iload_n 1, 1), (53, .sipush 173, 3), (56, .if_icmp .ge 30, 3), (59, .aload_n 0, 1), (60, .getfield 13, 3), (63, .aload_n 0, 1), (64, .getfield 46, 3), (67, .sipush 173, 3), (70, .imul, 1), (71, .iload_n 1, 1), (72, .iadd, 1), (73, .aload_n 0, 1), (74, .getfield 7, 3), (77, .iload_n 1, 1), (78, .iaload, 1), (79, .iastore, 1), (80, .iinc 1 1, 3), (83, .goto (-31), 3), (86, .aload_n 0, 1), (87, .dup, 1), (88, .getfield 46, 3), (91, .iconst 1, 1), (92, .iadd, 1), (93, .putfield 46, 3), (96, .return_, 1)]
theorem dX7_record : iX7_record.all (fun q => decide (decode cX7_record q.1 = .ok q.2)) = true := by decide +kernel
abbrev wsX7_record : List Cond := .code yX7_record cX7_record 2 none :: wT
abbrev cX7_undo : ByteArray := prog_9_method_10_code
def yX7_undo : MethodName := ⟨"PointAnswersModel", "undo", "()I"⟩
def iX7_undo : List (Nat × Instr × Nat) := [(0, .aload_n 0, 1), (1, .getfield 46, 3), (4, .ifCond .ne 6, 3), (7, .bipush (-5), 2), (9, .ireturn, 1), (10, .aload_n 0, 1), (11, .dup, 1), (12, .getfield 46, 3), (15, .iconst 1, 1), (16, .isub, 1), (17, .putfield 46, 3), (20, .iconst 0, 1), (21, .istore_n 1, 1), (22, .iload_n 1, 1), (23, .sipush 173, 3), (26, .if_icmp .ge 30, 3), (29, .aload_n 0, 1), (30, .getfield 7, 3), (33, .iload_n 1, 1), (34, .aload_n 0, 1), (35, .getfield 13, 3), (38, .aload_n 0, 1), (39, .getfield 46, 3), (42, .sipush 173, 3), (45, .imul, 1), (46, .iload_n 1, 1), (47, .iadd, 1), (48, .iaload, 1), (49, .iastore, 1), (50, .iinc 1 1, 3), (53, .goto (-31), 3), (56, .aload_n 0, 1), (57, .getfield 46, 3), (60, .ireturn, 1)]
theorem dX7_undo : iX7_undo.all (fun q => decide (decode cX7_undo q.1 = .ok q.2)) = true := by decide +kernel
abbrev wsX7_undo : List Cond := .code yX7_undo cX7_undo 2 (some .int) :: wT
abbrev cX7_save : ByteArray := prog_9_method_11_code
def yX7_save : MethodName := ⟨"PointAnswersModel", "save", "(I)I"⟩
def iX7_save : List (Nat × Instr × Nat) := [(0, .iload_n 1, 1), (1, .iconst 0, 1), (2, .iconst 1, 1), (3, .invokestatic 50, 3), (6, .ifCond .ne 6, 3), (9, .bipush (-2), 2), (11, .ireturn, 1), (12, .aload_n 0, 1), (13, .getfield 19, 3), (16, .iload_n 1, 1), (17, .iconst 1, 1), (18, .bastore, 1), (19, .iconst 0, 1), (20, .istore_n 2, 1), (21, .iload_n 2, 1), (22, .sipush 173, 3), (25, .if_icmp .ge 27, 3), (28, .aload_n 0, 1), (29, .getfield 16, 3), (32, .iload_n 1, 1), (33, .sipush 173, 3), (36, .imul, 1), (37, .iload_n 2, 1), (38, .iadd, 1), (39, .aload_n 0, 1), (40, .getfield 7, 3), (43, .iload_n 2, 1), (44, .iaload, 1), (45, .iastore, 1), (46, .iinc 2 1, 3), (49, .goto (-28), 3), (52, .aload_n 0, 1), (53, .getfield 7, 3), (56, .iconst 3, 1), (57, .iaload, 1), (58, .ireturn, 1)]
theorem dX7_save : iX7_save.all (fun q => decide (decode cX7_save q.1 = .ok q.2)) = true := by decide +kernel
abbrev wsX7_save : List Cond := .code yX7_save cX7_save 3 (some .int) :: wT
abbrev cX7_restore : ByteArray := prog_9_method_12_code
def yX7_restore : MethodName := ⟨"PointAnswersModel", "restore", "(I)I"⟩
def iX7_restore : List (Nat × Instr × Nat) := [(0, .iload_n 1, 1), (1, .iconst 0, 1), (2, .iconst 1, 1), (3, .invokestatic 50, 3), (6, .ifCond .ne 6, 3), (9, .bipush (-2), 2), (11, .ireturn, 1), (12, .aload_n 0, 1), (13, .getfield 19, 3), (16, .iload_n 1, 1), (17, .baload, 1), (18, .ifCond .ne 6, 3), (21, .bipush (-5), 2), (23, .ireturn, 1), (24, .aload_n 0, 1), (25, .invokevirtual 54, 3), (28, .iconst 0, 1), (29, .istore_n 2, 1), (30, .iload_n 2, 1), (31, .sipush 173, 3), (34, .if_icmp .ge 27, 3), (37, .aload_n 0, 1), (38, .getfield 7, 3), (41, .iload_n 2, 1), (42, .aload_n 0, 1), (43, .getfield 16, 3), (46, .iload_n 1, 1), (47, .sipush 173, 3), (50, .imul, 1), (51, .iload_n 2, 1), (52, .iadd, 1), (53, .iaload, 1), (54, .iastore, 1), (55, .iinc 2 1, 3), (58, .goto (-28), 3), (61, .aload_n 0, 1), (62, .getfield 7, 3), (65, .iconst 3, 1), (66, .iaload, 1), (67, .ireturn, 1)]
theorem dX7_restore : iX7_restore.all (fun q => decide (decode cX7_restore q.1 = .ok q.2)) = true := by decide +kernel
abbrev wsX7_restore : List Cond := .code yX7_restore cX7_restore 3 (some .int) :: wT
abbrev cX7_lapsed : ByteArray := prog_9_method_13_code
def yX7_lapsed : MethodName := ⟨"PointAnswersModel", "lapsed", "(I)Z"⟩
def iX7_lapsed : List (Nat × Instr × Nat) := [(0, .aload_n 0, 1), (1, .iload_n 1, 1), (2, .invokevirtual 57, 3), (5, .ifCond .ne 29, 3), (8, .aload_n 0, 1), (9, .getfield 7, 3), (12, .iconst 2, 1), (13, .iaload, 1), (14, .aload_n 0, 1), (15, .iload_n 1, 1), (16, .iconst 3, 1), (17, .invokevirtual 42, 3), (20, .isub, 1), (21, .aload_n 0, 1), (22, .getfield 7, 3), (25, .iconst 0, 1), (26, .iaload, 1), (27, .if_icmp .le 7, 3), (30, .iconst 1, 1), (31, .goto 4, 3), (34, .iconst 0, 1), (35, .ireturn, 1)]
theorem dX7_lapsed : iX7_lapsed.all (fun q => decide (decode cX7_lapsed q.1 = .ok q.2)) = true := by decide +kernel
abbrev wsX7_lapsed : List Cond := .code yX7_lapsed cX7_lapsed 2 (some .boolean) :: wT
abbrev cX7_hasNoCase : ByteArray := prog_9_method_14_code
def yX7_hasNoCase : MethodName := ⟨"PointAnswersModel", "hasNoCase", "(I)Z"⟩
def iX7_hasNoCase : List (Nat × Instr × Nat) := [(0, .aload_n 0, 1), (1, .iload_n 1, 1), (2, .iconst 5, 1), (3, .invokevirtual 42, 3), (6, .ifCond .eq 25, 3), (9, .aload_n 0, 1), (10, .iload_n 1, 1), (11, .iconst 5, 1), (12, .invokevirtual 42, 3), (15, .aload_n 0, 1), (16, .getfield 7, 3), (19, .iconst 4, 1), (20, .iaload, 1), (21, .iconst (-1), 1), (22, .ixor, 1), (23, .iand, 1), (24, .ifCond .ne 7, 3), (27, .iconst 1, 1), (28, .goto 4, 3), (31, .iconst 0, 1), (32, .ireturn, 1)]
theorem dX7_hasNoCase : iX7_hasNoCase.all (fun q => decide (decode cX7_hasNoCase q.1 = .ok q.2)) = true := by decide +kernel
abbrev wsX7_hasNoCase : List Cond := .code yX7_hasNoCase cX7_hasNoCase 2 (some .boolean) :: wT
abbrev cX7_layOut : ByteArray := prog_9_method_15_code
def yX7_layOut : MethodName := ⟨"PointAnswersModel", "layOut", "()V"⟩
def iX7_layOut : List (Nat × Instr × Nat) := [(0, .aload_n 0, 1), (1, .getfield 30, 3), (4, .iconst 0, 1), (5, .iconst 0, 1), (6, .iastore, 1), (7, .aload_n 0, 1), (8, .getfield 30, 3), (11, .iconst 1, 1), (12, .iconst 0, 1), (13, .iastore, 1), (14, .iconst 0, 1), (15, .istore_n 1, 1), (16, .iload_n 1, 1), (17, .aload_n 0, 1), (18, .getfield 7, 3), (21, .iconst 3, 1), (22, .iaload, 1), (23, .if_icmp .ge 126, 3), (26, .aload_n 0, 1), (27, .iload_n 1, 1), (28, .iconst 0, 1), (29, .invokevirtual 42, 3), (32, .istore_n 2, 1), (33, .aload_n 0, 1), (34, .getfield 30, 3), (37, .iload_n 2, 1), (38, .iaload, 1), (39, .aload_n 0, 1), (40, .iload_n 1, 1), (41, .iconst 1, 1), (42, .invokevirtual 42, 3), (45, .iadd, 1), (46, .aload_n 0, 1), (47, .getfield 7, 3), (50, .iconst 1, 1), (51, .iaload, 1), (52, .if_icmp .le 7, 3), (55, .iconst 1, 1), (56, .goto 4, 3), (59, .iconst 0, 1), (60, .istore_n 3, 1), (61, .aload_n 0, 1), (62, .getfield 27, 3), (65, .iload_n 1, 1), (66, .aload_n 0, 1), (67, .iload_n 1, 1), (68, .invokevirtual 61, 3), (71, .ifCond .eq 7, 3), (74, .iconst 1, 1), (75, .goto 36, 3), (78, .iload_n 3, 1), (79, .ifCond .eq 7, 3), (82, .iconst 2, 1), (83, .goto 28, 3), (86, .aload_n 0, 1), (87, .iload_n 1, 1), (88, .invokevirtual 64, 3), (91, .ifCond .eq 7, 3), (94, .iconst 3, 1), (95, .goto 16, 3), (98, .aload_n 0, 1), (99, .iload_n 1, 1), (100, .invokevirtual 67, 3), (103, .ifCond .eq 7, 3), (106, .iconst 4, 1), (107, .goto 4, 3), (110, .iconst 0, 1), (111, .iastore, 1), (112, .aload_n 0, 1), (113, .getfield 30, 3), (116, .iload_n 2, 1), (117, .dup2, 1), (118, .iaload, 1), (119, .aload_n 0, 1), (120, .iload_n 1, 1), (121, .invokevirtual 61, 3), (124, .ifCond .ne 7, 3), (127, .iload_n 3, 1), (128, .ifCond .eq 7, 3), (131, .iconst 0, 1), (132, .goto 9, 3), (135, .aload_n 0, 1), (136, .iload_n 1, 1), (137, .iconst 1, 1), (138, .invokevirtual 42, 3), (141, .iadd, 1), (142, .iastore, 1), (143, .iinc 1 1, 3), (146, .goto (-130), 3), (149, .return_, 1)]
theorem dX7_layOut : iX7_layOut.all (fun q => decide (decode cX7_layOut q.1 = .ok q.2)) = true := by decide +kernel
abbrev wsX7_layOut : List Cond := .code yX7_layOut cX7_layOut 4 none :: wT
abbrev cX7_layAnswered : ByteArray := prog_9_method_16_code
def yX7_layAnswered : MethodName := ⟨"PointAnswersModel", "layAnswered", "(I)V"⟩
def iX7_layAnswered : List (Nat × Instr × Nat) := [(0, .aload_n 0, 1), (1, .getfield 7, 3), (4, .iconst 3, 1), (5, .iaload, 1), (6, .iconst 1, 1), (7, .isub, 1), (8, .istore_n 2, 1), (9, .iload_n 2, 1), (10, .ifCond .lt 102, 3), (13, .iload_n 2, 1), (14, .iload_n 1, 1), (15, .if_icmp .ne 7, 3), (18, .iconst 1, 1), (19, .goto 4, 3), (22, .iconst 0, 1), (23, .istore_n 3, 1), (24, .iload_n 2, 1), (25, .iconst 1, 1), (26, .iadd, 1), (27, .istore 4, 2), (29, .iload 4, 2), (31, .aload_n 0, 1), (32, .getfield 7, 3), (35, .iconst 3, 1), (36, .iaload, 1), (37, .if_icmp .ge 40, 3), (40, .iload_n 3, 1), (41, .ifCond .ne 24, 3), (44, .aload_n 0, 1), (45, .iload 4, 2), (47, .iconst 4, 1), (48, .invokevirtual 42, 3), (51, .iload_n 2, 1), (52, .if_icmp .ne 17, 3), (55, .aload_n 0, 1), (56, .getfield 27, 3), (59, .iload 4, 2), (61, .iaload, 1), (62, .ifCond .ne 7, 3), (65, .iconst 1, 1), (66, .goto 4, 3), (69, .iconst 0, 1), (70, .istore_n 3, 1), (71, .iinc 4 1, 3), (74, .goto (-45), 3), (77, .aload_n 0, 1), (78, .getfield 27, 3), (81, .iload_n 2, 1), (82, .aload_n 0, 1), (83, .getfield 27, 3), (86, .iload_n 2, 1), (87, .iaload, 1), (88, .ifCond .ne 11, 3), (91, .iload_n 3, 1), (92, .ifCond .eq 7, 3), (95, .iconst 5, 1), (96, .goto 9, 3), (99, .aload_n 0, 1), (100, .getfield 27, 3), (103, .iload_n 2, 1), (104, .iaload, 1), (105, .iastore, 1), (106, .iinc 2 (-1), 3), (109, .goto (-100), 3), (112, .return_, 1)]
theorem dX7_layAnswered : iX7_layAnswered.all (fun q => decide (decode cX7_layAnswered q.1 = .ok q.2)) = true := by decide +kernel
abbrev wsX7_layAnswered : List Cond := .code yX7_layAnswered cX7_layAnswered 5 none :: wT
abbrev cX7_look : ByteArray := prog_9_method_17_code
def yX7_look : MethodName := ⟨"PointAnswersModel", "look", "()V"⟩
def iX7_look : List (Nat × Instr × Nat) := [(0, .aload_n 0, 1), (1, .invokevirtual 70, 3), (4, .aload_n 0, 1), (5, .bipush (-6), 2), (7, .invokevirtual 73, 3), (10, .return_, 1)]
theorem dX7_look : iX7_look.all (fun q => decide (decode cX7_look q.1 = .ok q.2)) = true := by decide +kernel
abbrev wsX7_look : List Cond := .code yX7_look cX7_look 1 none :: wT
abbrev cX7_standing : ByteArray := prog_9_method_18_code
def yX7_standing : MethodName := ⟨"PointAnswersModel", "standing", "()I"⟩
def iX7_standing : List (Nat × Instr × Nat) := [(0, .iconst 0, 1), (1, .istore_n 1, 1), (2, .iconst 0, 1), (3, .istore_n 2, 1), (4, .iload_n 2, 1), (5, .aload_n 0, 1), (6, .getfield 7, 3), (9, .iconst 3, 1), (10, .iaload, 1), (11, .if_icmp .ge 28, 3), (14, .iload_n 1, 1), (15, .aload_n 0, 1), (16, .getfield 27, 3), (19, .iload_n 2, 1), (20, .iaload, 1), (21, .ifCond .ne 9, 3), (24, .iconst 1, 1), (25, .iload_n 2, 1), (26, .ishl, 1), (27, .goto 4, 3), (30, .iconst 0, 1), (31, .ior, 1), (32, .istore_n 1, 1), (33, .iinc 2 1, 3), (36, .goto (-32), 3), (39, .iload_n 1, 1), (40, .ireturn, 1)]
theorem dX7_standing : iX7_standing.all (fun q => decide (decode cX7_standing q.1 = .ok q.2)) = true := by decide +kernel
abbrev wsX7_standing : List Cond := .code yX7_standing cX7_standing 3 (some .int) :: wT
abbrev cX7_claims : ByteArray := prog_9_method_19_code
def yX7_claims : MethodName := ⟨"PointAnswersModel", "claims", "()I"⟩
def iX7_claims : List (Nat × Instr × Nat) := [(0, .iconst 0, 1), (1, .istore_n 1, 1), (2, .iconst 0, 1), (3, .istore_n 2, 1), (4, .iload_n 2, 1), (5, .aload_n 0, 1), (6, .getfield 7, 3), (9, .iconst 3, 1), (10, .iaload, 1), (11, .if_icmp .ge 27, 3), (14, .iload_n 1, 1), (15, .aload_n 0, 1), (16, .iload_n 2, 1), (17, .invokevirtual 57, 3), (20, .ifCond .eq 9, 3), (23, .iconst 1, 1), (24, .iload_n 2, 1), (25, .ishl, 1), (26, .goto 4, 3), (29, .iconst 0, 1), (30, .ior, 1), (31, .istore_n 1, 1), (32, .iinc 2 1, 3), (35, .goto (-31), 3), (38, .iload_n 1, 1), (39, .ireturn, 1)]
theorem dX7_claims : iX7_claims.all (fun q => decide (decode cX7_claims q.1 = .ok q.2)) = true := by decide +kernel
abbrev wsX7_claims : List Cond := .code yX7_claims cX7_claims 3 (some .int) :: wT
abbrev cX7_answersTo : ByteArray := prog_9_method_20_code
def yX7_answersTo : MethodName := ⟨"PointAnswersModel", "answersTo", "(I)I"⟩
def iX7_answersTo : List (Nat × Instr × Nat) := [(0, .iconst 0, 1), (1, .istore_n 2, 1), (2, .iconst 0, 1), (3, .istore_n 3, 1), (4, .iload_n 3, 1), (5, .aload_n 0, 1), (6, .getfield 7, 3), (9, .iconst 3, 1), (10, .iaload, 1), (11, .if_icmp .ge 29, 3), (14, .iload_n 2, 1), (15, .aload_n 0, 1), (16, .iload_n 3, 1), (17, .iconst 4, 1), (18, .invokevirtual 42, 3), (21, .iload_n 1, 1), (22, .if_icmp .ne 9, 3), (25, .iconst 1, 1), (26, .iload_n 3, 1), (27, .ishl, 1), (28, .goto 4, 3), (31, .iconst 0, 1), (32, .ior, 1), (33, .istore_n 2, 1), (34, .iinc 3 1, 3), (37, .goto (-33), 3), (40, .iload_n 2, 1), (41, .ireturn, 1)]
theorem dX7_answersTo : iX7_answersTo.all (fun q => decide (decode cX7_answersTo q.1 = .ok q.2)) = true := by decide +kernel
abbrev wsX7_answersTo : List Cond := .code yX7_answersTo cX7_answersTo 4 (some .int) :: wT
abbrev cX7_isValue : ByteArray := prog_9_method_21_code
def yX7_isValue : MethodName := ⟨"PointAnswersModel", "isValue", "(II)Z"⟩
def iX7_isValue : List (Nat × Instr × Nat) := [(0, .iload_n 0, 1), (1, .ifCond .ne 13, 3), (4, .iload_n 1, 1), (5, .iconst 1, 1), (6, .bipush 60, 2), (8, .invokestatic 50, 3), (11, .goto 10, 3), (14, .iload_n 1, 1), (15, .iconst 1, 1), (16, .bipush 99, 2), (18, .invokestatic 50, 3), (21, .ireturn, 1)]
theorem dX7_isValue : iX7_isValue.all (fun q => decide (decode cX7_isValue q.1 = .ok q.2)) = true := by decide +kernel
abbrev wsX7_isValue : List Cond := .code yX7_isValue cX7_isValue 2 (some .boolean) :: wT
abbrev cX7_set : ByteArray := prog_9_method_22_code
def yX7_set : MethodName := ⟨"PointAnswersModel", "set", "(II)I"⟩
def iX7_set : List (Nat × Instr × Nat) := [(0, .iload_n 1, 1), (1, .iconst 0, 1), (2, .iconst 1, 1), (3, .invokestatic 50, 3), (6, .ifCond .eq 11, 3), (9, .iload_n 1, 1), (10, .iload_n 2, 1), (11, .invokestatic 77, 3), (14, .ifCond .ne 6, 3), (17, .bipush (-2), 2), (19, .ireturn, 1), (20, .aload_n 0, 1), (21, .invokevirtual 54, 3), (24, .aload_n 0, 1), (25, .getfield 7, 3), (28, .iload_n 1, 1), (29, .iaload, 1), (30, .istore_n 3, 1), (31, .aload_n 0, 1), (32, .getfield 7, 3), (35, .iload_n 1, 1), (36, .iload_n 2, 1), (37, .iastore, 1), (38, .iload_n 3, 1), (39, .ireturn, 1)]
theorem dX7_set : iX7_set.all (fun q => decide (decode cX7_set q.1 = .ok q.2)) = true := by decide +kernel
abbrev wsX7_set : List Cond := .code yX7_set cX7_set 4 (some .int) :: wT
abbrev cX7_file : ByteArray := prog_9_method_23_code
def yX7_file : MethodName := ⟨"PointAnswersModel", "file", "(IIII)I"⟩
def iX7_file : List (Nat × Instr × Nat) := [(0, .aload_n 0, 1), (1, .getfield 7, 3), (4, .iconst 3, 1), (5, .iaload, 1), (6, .istore 5, 2), (8, .aload_n 0, 1), (9, .iload 5, 2), (11, .iconst 0, 1), (12, .iload_n 1, 1), (13, .invokevirtual 81, 3), (16, .aload_n 0, 1), (17, .iload 5, 2), (19, .iconst 1, 1), (20, .iload_n 3, 1), (21, .invokevirtual 81, 3), (24, .aload_n 0, 1), (25, .iload 5, 2), (27, .iconst 2, 1), (28, .aload_n 0, 1), (29, .getfield 7, 3), (32, .iconst 2, 1), (33, .iaload, 1), (34, .invokevirtual 81, 3), (37, .aload_n 0, 1), (38, .iload 5, 2), (40, .iconst 3, 1), (41, .aload_n 0, 1), (42, .getfield 7, 3), (45, .iconst 2, 1), (46, .iaload, 1), (47, .invokevirtual 81, 3), (50, .aload_n 0, 1), (51, .iload 5, 2), (53, .iconst 4, 1), (54, .iload_n 2, 1), (55, .invokevirtual 81, 3), (58, .aload_n 0, 1), (59, .iload 5, 2), (61, .iconst 5, 1), (62, .iload 4, 2), (64, .invokevirtual 81, 3), (67, .aload_n 0, 1), (68, .iload 5, 2), (70, .bipush 6, 2), (72, .iconst 0, 1), (73, .invokevirtual 81, 3), (76, .aload_n 0, 1), (77, .getfield 7, 3), (80, .iconst 3, 1), (81, .dup2, 1), (82, .iaload, 1), (83, .iconst 1, 1), (84, .iadd, 1), (85, .iastore, 1), (86, .iload 5, 2), (88, .ireturn, 1)]
theorem dX7_file : iX7_file.all (fun q => decide (decode cX7_file q.1 = .ok q.2)) = true := by decide +kernel
abbrev wsX7_file : List Cond := .code yX7_file cX7_file 6 (some .int) :: wT
abbrev cX7_isFile : ByteArray := prog_9_method_24_code
def yX7_isFile : MethodName := ⟨"PointAnswersModel", "isFile", "(II)Z"⟩
def iX7_isFile : List (Nat × Instr × Nat) := [(0, .iload_n 0, 1), (1, .iconst 1, 1), (2, .bipush 9, 2), (4, .invokestatic 50, 3), (7, .ifCond .eq 18, 3), (10, .iload_n 1, 1), (11, .iconst 0, 1), (12, .sipush 1023, 3), (15, .invokestatic 50, 3), (18, .ifCond .eq 7, 3), (21, .iconst 1, 1), (22, .goto 4, 3), (25, .iconst 0, 1), (26, .ireturn, 1)]
theorem dX7_isFile : iX7_isFile.all (fun q => decide (decode cX7_isFile q.1 = .ok q.2)) = true := by decide +kernel
abbrev wsX7_isFile : List Cond := .code yX7_isFile cX7_isFile 2 (some .boolean) :: wT
abbrev cX7_whyNotClaim : ByteArray := prog_9_method_25_code
def yX7_whyNotClaim : MethodName := ⟨"PointAnswersModel", "whyNotClaim", "(III)I"⟩
def iX7_whyNotClaim : List (Nat × Instr × Nat) := [(0, .iload_n 1, 1), (1, .iconst 0, 1), (2, .iconst 1, 1), (3, .invokestatic 50, 3), (6, .ifCond .eq 11, 3), (9, .iload_n 2, 1), (10, .iload_n 3, 1), (11, .invokestatic 85, 3), (14, .ifCond .ne 8, 3), (17, .bipush (-2), 2), (19, .goto 20, 3), (22, .aload_n 0, 1), (23, .getfield 7, 3), (26, .iconst 3, 1), (27, .iaload, 1), (28, .bipush 24, 2), (30, .if_icmp .ne 8, 3), (33, .bipush (-4), 2), (35, .goto 4, 3), (38, .iconst 0, 1), (39, .ireturn, 1)]
theorem dX7_whyNotClaim : iX7_whyNotClaim.all (fun q => decide (decode cX7_whyNotClaim q.1 = .ok q.2)) = true := by decide +kernel
abbrev wsX7_whyNotClaim : List Cond := .code yX7_whyNotClaim cX7_whyNotClaim 4 (some .int) :: wT
abbrev cX7_claim : ByteArray := prog_9_method_26_code
def yX7_claim : MethodName := ⟨"PointAnswersModel", "claim", "(III)I"⟩
def iX7_claim : List (Nat × Instr × Nat) := [(0, .aload_n 0, 1), (1, .iload_n 1, 1), (2, .iload_n 2, 1), (3, .iload_n 3, 1), (4, .invokevirtual 88, 3), (7, .istore 4, 2), (9, .iload 4, 2), (11, .ifCond .ge 6, 3), (14, .iload 4, 2), (16, .ireturn, 1), (17, .aload_n 0, 1), (18, .invokevirtual 54, 3), (21, .aload_n 0, 1), (22, .iload_n 1, 1), (23, .bipush (-6), 2), (25, .iload_n 2, 1), (26, .iload_n 3, 1), (27, .invokevirtual 92, 3), (30, .ireturn, 1)]
theorem dX7_claim : iX7_claim.all (fun q => decide (decode cX7_claim q.1 = .ok q.2)) = true := by decide +kernel
abbrev wsX7_claim : List Cond := .code yX7_claim cX7_claim 5 (some .int) :: wT
abbrev cX7_whyNotAnswer : ByteArray := prog_9_method_27_code
def yX7_whyNotAnswer : MethodName := ⟨"PointAnswersModel", "whyNotAnswer", "(III)I"⟩
def iX7_whyNotAnswer : List (Nat × Instr × Nat) := [(0, .aload_n 0, 1), (1, .iload_n 1, 1), (2, .invokevirtual 96, 3), (5, .ifCond .ne 5, 3), (8, .iconst (-1), 1), (9, .ireturn, 1), (10, .iload_n 2, 1), (11, .iload_n 3, 1), (12, .invokestatic 85, 3), (15, .ifCond .ne 8, 3), (18, .bipush (-2), 2), (20, .goto 33, 3), (23, .aload_n 0, 1), (24, .getfield 7, 3), (27, .iconst 3, 1), (28, .iaload, 1), (29, .bipush 24, 2), (31, .if_icmp .ne 8, 3), (34, .bipush (-4), 2), (36, .goto 17, 3), (39, .aload_n 0, 1), (40, .iload_n 1, 1), (41, .invokevirtual 61, 3), (44, .ifCond .eq 8, 3), (47, .bipush (-5), 2), (49, .goto 4, 3), (52, .iconst 0, 1), (53, .ireturn, 1)]
theorem dX7_whyNotAnswer : iX7_whyNotAnswer.all (fun q => decide (decode cX7_whyNotAnswer q.1 = .ok q.2)) = true := by decide +kernel
abbrev wsX7_whyNotAnswer : List Cond := .code yX7_whyNotAnswer cX7_whyNotAnswer 4 (some .int) :: wT
abbrev cX7_answer : ByteArray := prog_9_method_28_code
def yX7_answer : MethodName := ⟨"PointAnswersModel", "answer", "(III)I"⟩
def iX7_answer : List (Nat × Instr × Nat) := [(0, .aload_n 0, 1), (1, .iload_n 1, 1), (2, .iload_n 2, 1), (3, .iload_n 3, 1), (4, .invokevirtual 99, 3), (7, .istore 4, 2), (9, .iload 4, 2), (11, .ifCond .ge 6, 3), (14, .iload 4, 2), (16, .ireturn, 1), (17, .aload_n 0, 1), (18, .invokevirtual 54, 3), (21, .aload_n 0, 1), (22, .iconst 1, 1), (23, .aload_n 0, 1), (24, .iload_n 1, 1), (25, .iconst 0, 1), (26, .invokevirtual 42, 3), (29, .isub, 1), (30, .iload_n 1, 1), (31, .iload_n 2, 1), (32, .iload_n 3, 1), (33, .invokevirtual 92, 3), (36, .ireturn, 1)]
theorem dX7_answer : iX7_answer.all (fun q => decide (decode cX7_answer q.1 = .ok q.2)) = true := by decide +kernel
abbrev wsX7_answer : List Cond := .code yX7_answer cX7_answer 5 (some .int) :: wT
abbrev cX7_whyNotWithdraw : ByteArray := prog_9_method_29_code
def yX7_whyNotWithdraw : MethodName := ⟨"PointAnswersModel", "whyNotWithdraw", "(I)I"⟩
def iX7_whyNotWithdraw : List (Nat × Instr × Nat) := [(0, .aload_n 0, 1), (1, .iload_n 1, 1), (2, .invokevirtual 96, 3), (5, .ifCond .ne 7, 3), (8, .iconst (-1), 1), (9, .goto 17, 3), (12, .aload_n 0, 1), (13, .iload_n 1, 1), (14, .invokevirtual 61, 3), (17, .ifCond .eq 8, 3), (20, .bipush (-5), 2), (22, .goto 4, 3), (25, .iconst 0, 1), (26, .ireturn, 1)]
theorem dX7_whyNotWithdraw : iX7_whyNotWithdraw.all (fun q => decide (decode cX7_whyNotWithdraw q.1 = .ok q.2)) = true := by decide +kernel
abbrev wsX7_whyNotWithdraw : List Cond := .code yX7_whyNotWithdraw cX7_whyNotWithdraw 2 (some .int) :: wT
abbrev cX7_withdraw : ByteArray := prog_9_method_30_code
def yX7_withdraw : MethodName := ⟨"PointAnswersModel", "withdraw", "(I)I"⟩
def iX7_withdraw : List (Nat × Instr × Nat) := [(0, .aload_n 0, 1), (1, .iload_n 1, 1), (2, .invokevirtual 102, 3), (5, .istore_n 2, 1), (6, .iload_n 2, 1), (7, .ifCond .ge 5, 3), (10, .iload_n 2, 1), (11, .ireturn, 1), (12, .aload_n 0, 1), (13, .invokevirtual 54, 3), (16, .aload_n 0, 1), (17, .iload_n 1, 1), (18, .bipush 6, 2), (20, .iconst 1, 1), (21, .invokevirtual 81, 3), (24, .aload_n 0, 1), (25, .invokevirtual 106, 3), (28, .aload_n 0, 1), (29, .invokevirtual 109, 3), (32, .invokestatic 113, 3), (35, .ireturn, 1)]
theorem dX7_withdraw : iX7_withdraw.all (fun q => decide (decode cX7_withdraw q.1 = .ok q.2)) = true := by decide +kernel
abbrev wsX7_withdraw : List Cond := .code yX7_withdraw cX7_withdraw 3 (some .int) :: wT
abbrev cX7_whyNotRenew : ByteArray := prog_9_method_31_code
def yX7_whyNotRenew : MethodName := ⟨"PointAnswersModel", "whyNotRenew", "(I)I"⟩
def iX7_whyNotRenew : List (Nat × Instr × Nat) := [(0, .aload_n 0, 1), (1, .iload_n 1, 1), (2, .invokevirtual 96, 3), (5, .ifCond .ne 7, 3), (8, .iconst (-1), 1), (9, .goto 25, 3), (12, .aload_n 0, 1), (13, .iload_n 1, 1), (14, .invokevirtual 57, 3), (17, .ifCond .ne 11, 3), (20, .aload_n 0, 1), (21, .iload_n 1, 1), (22, .invokevirtual 61, 3), (25, .ifCond .eq 8, 3), (28, .bipush (-5), 2), (30, .goto 4, 3), (33, .iconst 0, 1), (34, .ireturn, 1)]
theorem dX7_whyNotRenew : iX7_whyNotRenew.all (fun q => decide (decode cX7_whyNotRenew q.1 = .ok q.2)) = true := by decide +kernel
abbrev wsX7_whyNotRenew : List Cond := .code yX7_whyNotRenew cX7_whyNotRenew 2 (some .int) :: wT
abbrev cX7_renew : ByteArray := prog_9_method_32_code
def yX7_renew : MethodName := ⟨"PointAnswersModel", "renew", "(I)I"⟩
def iX7_renew : List (Nat × Instr × Nat) := [(0, .aload_n 0, 1), (1, .iload_n 1, 1), (2, .invokevirtual 116, 3), (5, .istore_n 2, 1), (6, .iload_n 2, 1), (7, .ifCond .ge 5, 3), (10, .iload_n 2, 1), (11, .ireturn, 1), (12, .aload_n 0, 1), (13, .invokevirtual 54, 3), (16, .aload_n 0, 1), (17, .getfield 7, 3), (20, .iconst 2, 1), (21, .iaload, 1), (22, .aload_n 0, 1), (23, .iload_n 1, 1), (24, .iconst 3, 1), (25, .invokevirtual 42, 3), (28, .isub, 1), (29, .istore_n 3, 1), (30, .aload_n 0, 1), (31, .iload_n 1, 1), (32, .iconst 3, 1), (33, .aload_n 0, 1), (34, .getfield 7, 3), (37, .iconst 2, 1), (38, .iaload, 1), (39, .invokevirtual 81, 3), (42, .iload_n 3, 1), (43, .ireturn, 1)]
theorem dX7_renew : iX7_renew.all (fun q => decide (decode cX7_renew q.1 = .ok q.2)) = true := by decide +kernel
abbrev wsX7_renew : List Cond := .code yX7_renew cX7_renew 4 (some .int) :: wT
abbrev cX7_overruleIt : ByteArray := prog_9_method_33_code
def yX7_overruleIt : MethodName := ⟨"PointAnswersModel", "overruleIt", "(I)I"⟩
def iX7_overruleIt : List (Nat × Instr × Nat) := [(0, .aload_n 0, 1), (1, .getfield 7, 3), (4, .iconst 4, 1), (5, .dup2, 1), (6, .iaload, 1), (7, .iconst 1, 1), (8, .iload_n 1, 1), (9, .ishl, 1), (10, .ixor, 1), (11, .iastore, 1), (12, .aload_n 0, 1), (13, .getfield 7, 3), (16, .iconst 4, 1), (17, .iaload, 1), (18, .iload_n 1, 1), (19, .ishr, 1), (20, .iconst 1, 1), (21, .iand, 1), (22, .ireturn, 1)]
theorem dX7_overruleIt : iX7_overruleIt.all (fun q => decide (decode cX7_overruleIt q.1 = .ok q.2)) = true := by decide +kernel
abbrev wsX7_overruleIt : List Cond := .code yX7_overruleIt cX7_overruleIt 2 (some .int) :: wT
abbrev cX7_overrule : ByteArray := prog_9_method_34_code
def yX7_overrule : MethodName := ⟨"PointAnswersModel", "overrule", "(I)I"⟩
def iX7_overrule : List (Nat × Instr × Nat) := [(0, .iload_n 1, 1), (1, .iconst 0, 1), (2, .bipush 9, 2), (4, .invokestatic 50, 3), (7, .ifCond .ne 5, 3), (10, .iconst (-1), 1), (11, .ireturn, 1), (12, .aload_n 0, 1), (13, .invokevirtual 54, 3), (16, .aload_n 0, 1), (17, .iload_n 1, 1), (18, .invokevirtual 119, 3), (21, .ireturn, 1)]
theorem dX7_overrule : iX7_overrule.all (fun q => decide (decode cX7_overrule q.1 = .ok q.2)) = true := by decide +kernel
abbrev wsX7_overrule : List Cond := .code yX7_overrule cX7_overrule 2 (some .int) :: wT
abbrev cX7_whyNotPass : ByteArray := prog_9_method_35_code
def yX7_whyNotPass : MethodName := ⟨"PointAnswersModel", "whyNotPass", "(I)I"⟩
def iX7_whyNotPass : List (Nat × Instr × Nat) := [(0, .iload_n 1, 1), (1, .iconst 1, 1), (2, .bipush 99, 2), (4, .invokestatic 50, 3), (7, .ifCond .ne 8, 3), (10, .bipush (-2), 2), (12, .goto 23, 3), (15, .aload_n 0, 1), (16, .getfield 7, 3), (19, .iconst 2, 1), (20, .iaload, 1), (21, .iload_n 1, 1), (22, .iadd, 1), (23, .sipush 999, 3), (26, .if_icmp .le 8, 3), (29, .bipush (-5), 2), (31, .goto 4, 3), (34, .iconst 0, 1), (35, .ireturn, 1)]
theorem dX7_whyNotPass : iX7_whyNotPass.all (fun q => decide (decode cX7_whyNotPass q.1 = .ok q.2)) = true := by decide +kernel
abbrev wsX7_whyNotPass : List Cond := .code yX7_whyNotPass cX7_whyNotPass 2 (some .int) :: wT
abbrev cX7_pass : ByteArray := prog_9_method_36_code
def yX7_pass : MethodName := ⟨"PointAnswersModel", "pass", "(I)I"⟩
def iX7_pass : List (Nat × Instr × Nat) := [(0, .aload_n 0, 1), (1, .iload_n 1, 1), (2, .invokevirtual 122, 3), (5, .istore_n 2, 1), (6, .iload_n 2, 1), (7, .ifCond .ge 5, 3), (10, .iload_n 2, 1), (11, .ireturn, 1), (12, .aload_n 0, 1), (13, .invokevirtual 54, 3), (16, .aload_n 0, 1), (17, .getfield 7, 3), (20, .iconst 2, 1), (21, .dup2, 1), (22, .iaload, 1), (23, .iload_n 1, 1), (24, .iadd, 1), (25, .iastore, 1), (26, .aload_n 0, 1), (27, .invokevirtual 106, 3), (30, .aload_n 0, 1), (31, .invokevirtual 109, 3), (34, .invokestatic 113, 3), (37, .ireturn, 1)]
theorem dX7_pass : iX7_pass.all (fun q => decide (decode cX7_pass q.1 = .ok q.2)) = true := by decide +kernel
abbrev wsX7_pass : List Cond := .code yX7_pass cX7_pass 3 (some .int) :: wT
abbrev cX7_lowestThatStands : ByteArray := prog_9_method_37_code
def yX7_lowestThatStands : MethodName := ⟨"PointAnswersModel", "lowestThatStands", "(I)I"⟩
def iX7_lowestThatStands : List (Nat × Instr × Nat) := [(0, .iload_n 1, 1), (1, .iconst 1, 1), (2, .iadd, 1), (3, .istore_n 2, 1), (4, .iload_n 2, 1), (5, .aload_n 0, 1), (6, .getfield 7, 3), (9, .iconst 3, 1), (10, .iaload, 1), (11, .if_icmp .ge 30, 3), (14, .aload_n 0, 1), (15, .iload_n 2, 1), (16, .iconst 4, 1), (17, .invokevirtual 42, 3), (20, .iload_n 1, 1), (21, .if_icmp .ne 14, 3), (24, .aload_n 0, 1), (25, .getfield 27, 3), (28, .iload_n 2, 1), (29, .iaload, 1), (30, .ifCond .ne 5, 3), (33, .iload_n 2, 1), (34, .ireturn, 1), (35, .iinc 2 1, 3), (38, .goto (-34), 3), (41, .bipush (-6), 2), (43, .ireturn, 1)]
theorem dX7_lowestThatStands : iX7_lowestThatStands.all (fun q => decide (decode cX7_lowestThatStands q.1 = .ok q.2)) = true := by decide +kernel
abbrev wsX7_lowestThatStands : List Cond := .code yX7_lowestThatStands cX7_lowestThatStands 3 (some .int) :: wT
abbrev cX7_depth : ByteArray := prog_9_method_38_code
def yX7_depth : MethodName := ⟨"PointAnswersModel", "depth", "(I)I"⟩
def iX7_depth : List (Nat × Instr × Nat) := [(0, .iconst 0, 1), (1, .istore_n 2, 1), (2, .iload_n 1, 1), (3, .istore_n 3, 1), (4, .aload_n 0, 1), (5, .iload_n 3, 1), (6, .invokevirtual 57, 3), (9, .ifCond .ne 16, 3), (12, .aload_n 0, 1), (13, .iload_n 3, 1), (14, .iconst 4, 1), (15, .invokevirtual 42, 3), (18, .istore_n 3, 1), (19, .iinc 2 1, 3), (22, .goto (-18), 3), (25, .iload_n 2, 1), (26, .ireturn, 1)]
theorem dX7_depth : iX7_depth.all (fun q => decide (decode cX7_depth q.1 = .ok q.2)) = true := by decide +kernel
abbrev wsX7_depth : List Cond := .code yX7_depth cX7_depth 4 (some .int) :: wT
abbrev cX7_daysYet : ByteArray := prog_9_method_39_code
def yX7_daysYet : MethodName := ⟨"PointAnswersModel", "daysYet", "(I)I"⟩
def iX7_daysYet : List (Nat × Instr × Nat) := [(0, .aload_n 0, 1), (1, .iload_n 1, 1), (2, .invokevirtual 57, 3), (5, .ifCond .ne 11, 3), (8, .aload_n 0, 1), (9, .iload_n 1, 1), (10, .invokevirtual 64, 3), (13, .ifCond .eq 8, 3), (16, .bipush (-6), 2), (18, .goto 23, 3), (21, .aload_n 0, 1), (22, .getfield 7, 3), (25, .iconst 0, 1), (26, .iaload, 1), (27, .aload_n 0, 1), (28, .getfield 7, 3), (31, .iconst 2, 1), (32, .iaload, 1), (33, .aload_n 0, 1), (34, .iload_n 1, 1), (35, .iconst 3, 1), (36, .invokevirtual 42, 3), (39, .isub, 1), (40, .isub, 1), (41, .ireturn, 1)]
theorem dX7_daysYet : iX7_daysYet.all (fun q => decide (decode cX7_daysYet q.1 = .ok q.2)) = true := by decide +kernel
abbrev wsX7_daysYet : List Cond := .code yX7_daysYet cX7_daysYet 2 (some .int) :: wT
abbrev cX7_of : ByteArray := prog_9_method_40_code
def yX7_of : MethodName := ⟨"PointAnswersModel", "of", "(II)I"⟩
def iX7_of : List (Nat × Instr × Nat) := [(0, .aload_n 0, 1), (1, .iload_n 1, 1), (2, .invokevirtual 96, 3), (5, .ifCond .ne 5, 3), (8, .iconst (-1), 1), (9, .ireturn, 1), (10, .aload_n 0, 1), (11, .invokevirtual 106, 3), (14, .iload_n 2, 1), (15, .tableswitch 119 0 10 #[57, 57, 57, 64, 64, 73, 88, 95, 101, 107, 113], 57), (72, .aload_n 0, 1), (73, .iload_n 1, 1), (74, .iload_n 2, 1), (75, .invokevirtual 42, 3), (78, .ireturn, 1), (79, .aload_n 0, 1), (80, .iload_n 1, 1), (81, .iload_n 2, 1), (82, .iconst 1, 1), (83, .iadd, 1), (84, .invokevirtual 42, 3), (87, .ireturn, 1), (88, .aload_n 0, 1), (89, .getfield 27, 3), (92, .iload_n 1, 1), (93, .iaload, 1), (94, .ifCond .ne 7, 3), (97, .iconst 1, 1), (98, .goto 4, 3), (101, .iconst 0, 1), (102, .ireturn, 1), (103, .aload_n 0, 1), (104, .getfield 27, 3), (107, .iload_n 1, 1), (108, .iaload, 1), (109, .ireturn, 1), (110, .aload_n 0, 1), (111, .iload_n 1, 1), (112, .invokevirtual 125, 3), (115, .ireturn, 1), (116, .aload_n 0, 1), (117, .iload_n 1, 1), (118, .invokevirtual 128, 3), (121, .ireturn, 1), (122, .aload_n 0, 1), (123, .iload_n 1, 1), (124, .invokevirtual 131, 3), (127, .ireturn, 1), (128, .aload_n 0, 1), (129, .iload_n 1, 1), (130, .invokevirtual 134, 3), (133, .ireturn, 1), (134, .bipush (-2), 2), (136, .ireturn, 1)]
theorem dX7_of : iX7_of.all (fun q => decide (decode cX7_of q.1 = .ok q.2)) = true := by decide +kernel
abbrev wsX7_of : List Cond := .code yX7_of cX7_of 3 (some .int) :: wT
abbrev cX7_outOnes : ByteArray := prog_9_method_41_code
def yX7_outOnes : MethodName := ⟨"PointAnswersModel", "outOnes", "()I"⟩
def iX7_outOnes : List (Nat × Instr × Nat) := [(0, .iconst 0, 1), (1, .istore_n 1, 1), (2, .iconst 0, 1), (3, .istore_n 2, 1), (4, .iload_n 2, 1), (5, .aload_n 0, 1), (6, .getfield 7, 3), (9, .iconst 3, 1), (10, .iaload, 1), (11, .if_icmp .ge 33, 3), (14, .iload_n 1, 1), (15, .aload_n 0, 1), (16, .getfield 27, 3), (19, .iload_n 2, 1), (20, .iaload, 1), (21, .iconst 1, 1), (22, .iconst 4, 1), (23, .invokestatic 50, 3), (26, .ifCond .eq 9, 3), (29, .iconst 1, 1), (30, .iload_n 2, 1), (31, .ishl, 1), (32, .goto 4, 3), (35, .iconst 0, 1), (36, .ior, 1), (37, .istore_n 1, 1), (38, .iinc 2 1, 3), (41, .goto (-37), 3), (44, .iload_n 1, 1), (45, .ireturn, 1)]
theorem dX7_outOnes : iX7_outOnes.all (fun q => decide (decode cX7_outOnes q.1 = .ok q.2)) = true := by decide +kernel
abbrev wsX7_outOnes : List Cond := .code yX7_outOnes cX7_outOnes 3 (some .int) :: wT
abbrev cX7_answeredOnes : ByteArray := prog_9_method_42_code
def yX7_answeredOnes : MethodName := ⟨"PointAnswersModel", "answeredOnes", "()I"⟩
def iX7_answeredOnes : List (Nat × Instr × Nat) := [(0, .iconst 0, 1), (1, .istore_n 1, 1), (2, .iconst 0, 1), (3, .istore_n 2, 1), (4, .iload_n 2, 1), (5, .aload_n 0, 1), (6, .getfield 7, 3), (9, .iconst 3, 1), (10, .iaload, 1), (11, .if_icmp .ge 29, 3), (14, .iload_n 1, 1), (15, .aload_n 0, 1), (16, .getfield 27, 3), (19, .iload_n 2, 1), (20, .iaload, 1), (21, .iconst 5, 1), (22, .if_icmp .ne 9, 3), (25, .iconst 1, 1), (26, .iload_n 2, 1), (27, .ishl, 1), (28, .goto 4, 3), (31, .iconst 0, 1), (32, .ior, 1), (33, .istore_n 1, 1), (34, .iinc 2 1, 3), (37, .goto (-33), 3), (40, .iload_n 1, 1), (41, .ireturn, 1)]
theorem dX7_answeredOnes : iX7_answeredOnes.all (fun q => decide (decode cX7_answeredOnes q.1 = .ok q.2)) = true := by decide +kernel
abbrev wsX7_answeredOnes : List Cond := .code yX7_answeredOnes cX7_answeredOnes 3 (some .int) :: wT
abbrev cX7_ofSide : ByteArray := prog_9_method_43_code
def yX7_ofSide : MethodName := ⟨"PointAnswersModel", "ofSide", "(I)I"⟩
def iX7_ofSide : List (Nat × Instr × Nat) := [(0, .iconst 0, 1), (1, .istore_n 2, 1), (2, .iconst 0, 1), (3, .istore_n 3, 1), (4, .iload_n 3, 1), (5, .aload_n 0, 1), (6, .getfield 7, 3), (9, .iconst 3, 1), (10, .iaload, 1), (11, .if_icmp .ge 29, 3), (14, .iload_n 2, 1), (15, .aload_n 0, 1), (16, .iload_n 3, 1), (17, .iconst 0, 1), (18, .invokevirtual 42, 3), (21, .iload_n 1, 1), (22, .if_icmp .ne 9, 3), (25, .iconst 1, 1), (26, .iload_n 3, 1), (27, .ishl, 1), (28, .goto 4, 3), (31, .iconst 0, 1), (32, .ior, 1), (33, .istore_n 2, 1), (34, .iinc 3 1, 3), (37, .goto (-33), 3), (40, .iload_n 2, 1), (41, .ireturn, 1)]
theorem dX7_ofSide : iX7_ofSide.all (fun q => decide (decode cX7_ofSide q.1 = .ok q.2)) = true := by decide +kernel
abbrev wsX7_ofSide : List Cond := .code yX7_ofSide cX7_ofSide 4 (some .int) :: wT
abbrev cX7_count : ByteArray := prog_9_method_44_code
def yX7_count : MethodName := ⟨"PointAnswersModel", "count", "(I)I"⟩
def iX7_count : List (Nat × Instr × Nat) := [(0, .aload_n 0, 1), (1, .invokevirtual 106, 3), (4, .iload_n 1, 1), (5, .tableswitch 167 0 13 #[71, 78, 85, 93, 101, 114, 122, 130, 130, 140, 147, 147, 157, 162], 71), (76, .aload_n 0, 1), (77, .getfield 7, 3), (80, .iconst 2, 1), (81, .iaload, 1), (82, .ireturn, 1), (83, .aload_n 0, 1), (84, .getfield 7, 3), (87, .iconst 3, 1), (88, .iaload, 1), (89, .ireturn, 1), (90, .aload_n 0, 1), (91, .invokevirtual 137, 3), (94, .invokestatic 113, 3), (97, .ireturn, 1), (98, .aload_n 0, 1), (99, .invokevirtual 109, 3), (102, .invokestatic 113, 3), (105, .ireturn, 1), (106, .aload_n 0, 1), (107, .invokevirtual 109, 3), (110, .aload_n 0, 1), (111, .invokevirtual 137, 3), (114, .iand, 1), (115, .invokestatic 113, 3), (118, .ireturn, 1), (119, .aload_n 0, 1), (120, .invokevirtual 140, 3), (123, .invokestatic 113, 3), (126, .ireturn, 1), (127, .aload_n 0, 1), (128, .invokevirtual 143, 3), (131, .invokestatic 113, 3), (134, .ireturn, 1), (135, .aload_n 0, 1), (136, .getfield 30, 3), (139, .iload_n 1, 1), (140, .bipush 7, 2), (142, .isub, 1), (143, .iaload, 1), (144, .ireturn, 1), (145, .aload_n 0, 1), (146, .getfield 7, 3), (149, .iconst 4, 1), (150, .iaload, 1), (151, .ireturn, 1), (152, .aload_n 0, 1), (153, .getfield 7, 3), (156, .iload_n 1, 1), (157, .bipush 10, 2), (159, .isub, 1), (160, .iaload, 1), (161, .ireturn, 1), (162, .aload_n 0, 1), (163, .getfield 146, 3), (166, .ireturn, 1), (167, .aload_n 0, 1), (168, .getfield 46, 3), (171, .ireturn, 1), (172, .bipush (-2), 2), (174, .ireturn, 1)]
theorem dX7_count : iX7_count.all (fun q => decide (decode cX7_count q.1 = .ok q.2)) = true := by decide +kernel
abbrev wsX7_count : List Cond := .code yX7_count cX7_count 2 (some .int) :: wT
abbrev cX7_points : ByteArray := prog_9_method_45_code
def yX7_points : MethodName := ⟨"PointAnswersModel", "points", "(I)I"⟩
def iX7_points : List (Nat × Instr × Nat) := [(0, .aload_n 0, 1), (1, .invokevirtual 106, 3), (4, .iload_n 1, 1), (5, .tableswitch 72 0 5 #[39, 44, 54, 59, 64, 64], 39), (44, .aload_n 0, 1), (45, .invokevirtual 109, 3), (48, .ireturn, 1), (49, .aload_n 0, 1), (50, .invokevirtual 109, 3), (53, .aload_n 0, 1), (54, .invokevirtual 137, 3), (57, .iand, 1), (58, .ireturn, 1), (59, .aload_n 0, 1), (60, .invokevirtual 140, 3), (63, .ireturn, 1), (64, .aload_n 0, 1), (65, .invokevirtual 143, 3), (68, .ireturn, 1), (69, .aload_n 0, 1), (70, .iload_n 1, 1), (71, .iconst 4, 1), (72, .isub, 1), (73, .invokevirtual 149, 3), (76, .ireturn, 1), (77, .bipush (-2), 2), (79, .ireturn, 1)]
theorem dX7_points : iX7_points.all (fun q => decide (decode cX7_points q.1 = .ok q.2)) = true := by decide +kernel
abbrev wsX7_points : List Cond := .code yX7_points cX7_points 2 (some .int) :: wT
abbrev cX7_bitsOf : ByteArray := prog_9_method_46_code
def yX7_bitsOf : MethodName := ⟨"PointAnswersModel", "bitsOf", "(F)I"⟩
def iX7_bitsOf : List (Nat × Instr × Nat) := [(0, .fload_n 0, 1), (1, .fconst 0, 1), (2, .fcmp .l, 1), (3, .ifCond .ne 5, 3), (6, .iconst 0, 1), (7, .ireturn, 1), (8, .fload_n 0, 1), (9, .fstore_n 1, 1), (10, .bipush 127, 2), (12, .istore_n 2, 1), (13, .fload_n 1, 1), (14, .fconst 1, 1), (15, .fcmp .g, 1), (16, .ifCond .ge 13, 3), (19, .fload_n 1, 1), (20, .fconst 2, 1), (21, .fmul, 1), (22, .fstore_n 1, 1), (23, .iinc 2 (-1), 3), (26, .goto (-13), 3), (29, .iload_n 2, 1), (30, .bipush 23, 2), (32, .ishl, 1), (33, .fload_n 1, 1), (34, .ldc 152, 2), (36, .fmul, 1), (37, .f2i, 1), (38, .iadd, 1), (39, .ldc 153, 2), (41, .isub, 1), (42, .ireturn, 1)]
theorem dX7_bitsOf : iX7_bitsOf.all (fun q => decide (decode cX7_bitsOf q.1 = .ok q.2)) = true := by decide +kernel
abbrev wsX7_bitsOf : List Cond := .code yX7_bitsOf cX7_bitsOf 3 (some .int) :: wT
abbrev cX7_share : ByteArray := prog_9_method_47_code
def yX7_share : MethodName := ⟨"PointAnswersModel", "share", "(I)I"⟩
def iX7_share : List (Nat × Instr × Nat) := [(0, .iload_n 1, 1), (1, .iconst 0, 1), (2, .iconst 1, 1), (3, .invokestatic 50, 3), (6, .ifCond .ne 5, 3), (9, .iconst (-1), 1), (10, .ireturn, 1), (11, .aload_n 0, 1), (12, .invokevirtual 106, 3), (15, .aload_n 0, 1), (16, .invokevirtual 137, 3), (19, .aload_n 0, 1), (20, .iload_n 1, 1), (21, .invokevirtual 149, 3), (24, .iand, 1), (25, .invokestatic 113, 3), (28, .istore_n 2, 1), (29, .iload_n 2, 1), (30, .ifCond .ne 8, 3), (33, .bipush (-6), 2), (35, .goto 28, 3), (38, .aload_n 0, 1), (39, .invokevirtual 137, 3), (42, .aload_n 0, 1), (43, .iload_n 1, 1), (44, .invokevirtual 149, 3), (47, .iand, 1), (48, .aload_n 0, 1), (49, .invokevirtual 109, 3), (52, .iand, 1), (53, .invokestatic 113, 3), (56, .i2f, 1), (57, .iload_n 2, 1), (58, .i2f, 1), (59, .fdiv, 1), (60, .invokestatic 154, 3), (63, .ireturn, 1)]
theorem dX7_share : iX7_share.all (fun q => decide (decode cX7_share q.1 = .ok q.2)) = true := by decide +kernel
abbrev wsX7_share : List Cond := .code yX7_share cX7_share 3 (some .int) :: wT
abbrev cX7_layCosts : ByteArray := prog_9_method_48_code
def yX7_layCosts : MethodName := ⟨"PointAnswersModel", "layCosts", "()V"⟩
def iX7_layCosts : List (Nat × Instr × Nat) := [(0, .aload_n 0, 1), (1, .invokevirtual 106, 3), (4, .aload_n 0, 1), (5, .getfield 7, 3), (8, .iconst 3, 1), (9, .iaload, 1), (10, .iconst 1, 1), (11, .isub, 1), (12, .istore_n 1, 1), (13, .iload_n 1, 1), (14, .ifCond .lt 164, 3), (17, .aload_n 0, 1), (18, .getfield 27, 3), (21, .iload_n 1, 1), (22, .iaload, 1), (23, .iconst 1, 1), (24, .iconst 4, 1), (25, .invokestatic 50, 3), (28, .istore_n 2, 1), (29, .aload_n 0, 1), (30, .iload_n 1, 1), (31, .invokevirtual 128, 3), (34, .ifCond .ne 7, 3), (37, .iconst 1, 1), (38, .goto 4, 3), (41, .iconst 0, 1), (42, .istore_n 3, 1), (43, .iconst 0, 1), (44, .istore 4, 2), (46, .iload_n 3, 1), (47, .ifCond .eq 7, 3), (50, .iconst 1, 1), (51, .goto 6, 3), (54, .sipush 1000, 3), (57, .istore 5, 2), (59, .iload_n 1, 1), (60, .iconst 1, 1), (61, .iadd, 1), (62, .istore 6, 2), (64, .iload 6, 2), (66, .aload_n 0, 1), (67, .getfield 7, 3), (70, .iconst 3, 1), (71, .iaload, 1), (72, .if_icmp .ge 58, 3), (75, .aload_n 0, 1), (76, .iload 6, 2), (78, .iconst 4, 1), (79, .invokevirtual 42, 3), (82, .iload_n 1, 1), (83, .if_icmp .ne 41, 3), (86, .iload 4, 2), (88, .aload_n 0, 1), (89, .getfield 36, 3), (92, .iload 6, 2), (94, .iaload, 1), (95, .iadd, 1), (96, .istore 4, 2), (98, .aload_n 0, 1), (99, .getfield 33, 3), (102, .iload 6, 2), (104, .iaload, 1), (105, .iload 5, 2), (107, .if_icmp .ge 13, 3), (110, .aload_n 0, 1), (111, .getfield 33, 3), (114, .iload 6, 2), (116, .iaload, 1), (117, .goto 5, 3), (120, .iload 5, 2), (122, .istore 5, 2), (124, .iinc 6 1, 3), (127, .goto (-63), 3), (130, .aload_n 0, 1), (131, .getfield 33, 3), (134, .iload_n 1, 1), (135, .iload_n 2, 1), (136, .ifCond .ne 11, 3), (139, .iload 4, 2), (141, .sipush 1000, 3), (144, .if_icmp .lt 9, 3), (147, .sipush 1000, 3), (150, .goto 5, 3), (153, .iload 4, 2), (155, .iastore, 1), (156, .aload_n 0, 1), (157, .getfield 36, 3), (160, .iload_n 1, 1), (161, .iload_n 2, 1), (162, .ifCond .eq 7, 3), (165, .iconst 0, 1), (166, .goto 5, 3), (169, .iload 5, 2), (171, .iastore, 1), (172, .iinc 1 (-1), 3), (175, .goto (-162), 3), (178, .return_, 1)]
theorem dX7_layCosts : iX7_layCosts.all (fun q => decide (decode cX7_layCosts q.1 = .ok q.2)) = true := by decide +kernel
abbrev wsX7_layCosts : List Cond := .code yX7_layCosts cX7_layCosts 7 none :: wT
abbrev cX7_toFall : ByteArray := prog_9_method_49_code
def yX7_toFall : MethodName := ⟨"PointAnswersModel", "toFall", "(I)I"⟩
def iX7_toFall : List (Nat × Instr × Nat) := [(0, .aload_n 0, 1), (1, .iload_n 1, 1), (2, .invokevirtual 96, 3), (5, .ifCond .ne 5, 3), (8, .iconst (-1), 1), (9, .ireturn, 1), (10, .aload_n 0, 1), (11, .invokevirtual 158, 3), (14, .aload_n 0, 1), (15, .getfield 36, 3), (18, .iload_n 1, 1), (19, .iaload, 1), (20, .sipush 1000, 3), (23, .if_icmp .ne 8, 3), (26, .bipush (-6), 2), (28, .goto 9, 3), (31, .aload_n 0, 1), (32, .getfield 36, 3), (35, .iload_n 1, 1), (36, .iaload, 1), (37, .ireturn, 1)]
theorem dX7_toFall : iX7_toFall.all (fun q => decide (decode cX7_toFall q.1 = .ok q.2)) = true := by decide +kernel
abbrev wsX7_toFall : List Cond := .code yX7_toFall cX7_toFall 2 (some .int) :: wT
abbrev cX7_toStand : ByteArray := prog_9_method_50_code
def yX7_toStand : MethodName := ⟨"PointAnswersModel", "toStand", "(I)I"⟩
def iX7_toStand : List (Nat × Instr × Nat) := [(0, .aload_n 0, 1), (1, .iload_n 1, 1), (2, .invokevirtual 96, 3), (5, .ifCond .ne 5, 3), (8, .iconst (-1), 1), (9, .ireturn, 1), (10, .aload_n 0, 1), (11, .invokevirtual 158, 3), (14, .aload_n 0, 1), (15, .getfield 27, 3), (18, .iload_n 1, 1), (19, .iaload, 1), (20, .iconst 1, 1), (21, .iconst 4, 1), (22, .invokestatic 50, 3), (25, .ifCond .eq 6, 3), (28, .bipush (-5), 2), (30, .ireturn, 1), (31, .aload_n 0, 1), (32, .getfield 33, 3), (35, .iload_n 1, 1), (36, .iaload, 1), (37, .sipush 1000, 3), (40, .if_icmp .ne 8, 3), (43, .bipush (-6), 2), (45, .goto 9, 3), (48, .aload_n 0, 1), (49, .getfield 33, 3), (52, .iload_n 1, 1), (53, .iaload, 1), (54, .ireturn, 1)]
theorem dX7_toStand : iX7_toStand.all (fun q => decide (decode cX7_toStand q.1 = .ok q.2)) = true := by decide +kernel
abbrev wsX7_toStand : List Cond := .code yX7_toStand cX7_toStand 2 (some .int) :: wT
abbrev cX7_changesBy : ByteArray := prog_9_method_51_code
def yX7_changesBy : MethodName := ⟨"PointAnswersModel", "changesBy", "(I)I"⟩
def iX7_changesBy : List (Nat × Instr × Nat) := [(0, .aload_n 0, 1), (1, .invokevirtual 106, 3), (4, .aload_n 0, 1), (5, .invokevirtual 109, 3), (8, .aload_n 0, 1), (9, .invokevirtual 137, 3), (12, .iand, 1), (13, .istore_n 2, 1), (14, .aload_n 0, 1), (15, .invokevirtual 70, 3), (18, .aload_n 0, 1), (19, .iload_n 1, 1), (20, .invokevirtual 73, 3), (23, .iload_n 2, 1), (24, .aload_n 0, 1), (25, .invokevirtual 109, 3), (28, .aload_n 0, 1), (29, .invokevirtual 137, 3), (32, .iand, 1), (33, .ixor, 1), (34, .invokestatic 113, 3), (37, .ireturn, 1)]
theorem dX7_changesBy : iX7_changesBy.all (fun q => decide (decode cX7_changesBy q.1 = .ok q.2)) = true := by decide +kernel
abbrev wsX7_changesBy : List Cond := .code yX7_changesBy cX7_changesBy 3 (some .int) :: wT
abbrev cX7_bestAnswer : ByteArray := prog_9_method_52_code
def yX7_bestAnswer : MethodName := ⟨"PointAnswersModel", "bestAnswer", "(I)I"⟩
def iX7_bestAnswer : List (Nat × Instr × Nat) := [(0, .iload_n 1, 1), (1, .iconst 0, 1), (2, .iconst 1, 1), (3, .invokestatic 50, 3), (6, .ifCond .ne 6, 3), (9, .bipush (-2), 2), (11, .ireturn, 1), (12, .bipush (-6), 2), (14, .istore_n 2, 1), (15, .bipush (-6), 2), (17, .istore_n 3, 1), (18, .iconst 0, 1), (19, .istore 4, 2), (21, .iload 4, 2), (23, .aload_n 0, 1), (24, .getfield 7, 3), (27, .iconst 3, 1), (28, .iaload, 1), (29, .if_icmp .ge 71, 3), (32, .aload_n 0, 1), (33, .invokevirtual 106, 3), (36, .aload_n 0, 1), (37, .getfield 27, 3), (40, .iload 4, 2), (42, .iaload, 1), (43, .iconst 1, 1), (44, .iconst 4, 1), (45, .invokestatic 50, 3), (48, .ifCond .ne 46, 3), (51, .aload_n 0, 1), (52, .iload 4, 2), (54, .invokevirtual 128, 3), (57, .ifCond .ne 37, 3), (60, .aload_n 0, 1), (61, .iload 4, 2), (63, .invokevirtual 161, 3), (66, .istore 5, 2), (68, .iload 5, 2), (70, .iload_n 3, 1), (71, .if_icmp .le 8, 3), (74, .iload 4, 2), (76, .goto 4, 3), (79, .iload_n 2, 1), (80, .istore_n 2, 1), (81, .iload 5, 2), (83, .iload_n 3, 1), (84, .if_icmp .le 8, 3), (87, .iload 5, 2), (89, .goto 4, 3), (92, .iload_n 3, 1), (93, .istore_n 3, 1), (94, .iinc 4 1, 3), (97, .goto (-76), 3), (100, .iload_n 1, 1), (101, .ifCond .ne 7, 3), (104, .iload_n 2, 1), (105, .goto 4, 3), (108, .iload_n 3, 1), (109, .ireturn, 1)]
theorem dX7_bestAnswer : iX7_bestAnswer.all (fun q => decide (decode cX7_bestAnswer q.1 = .ok q.2)) = true := by decide +kernel
abbrev wsX7_bestAnswer : List Cond := .code yX7_bestAnswer cX7_bestAnswer 6 (some .int) :: wT
abbrev cX7_changesIn : ByteArray := prog_9_method_53_code
def yX7_changesIn : MethodName := ⟨"PointAnswersModel", "changesIn", "()I"⟩
def iX7_changesIn : List (Nat × Instr × Nat) := [(0, .aload_n 0, 1), (1, .invokevirtual 106, 3), (4, .aload_n 0, 1), (5, .invokevirtual 109, 3), (8, .istore_n 1, 1), (9, .aload_n 0, 1), (10, .getfield 7, 3), (13, .iconst 2, 1), (14, .iaload, 1), (15, .istore_n 2, 1), (16, .bipush (-6), 2), (18, .istore_n 3, 1), (19, .iconst 1, 1), (20, .istore 4, 2), (22, .iload 4, 2), (24, .bipush 100, 2), (26, .if_icmp .gt 45, 3), (29, .iload_n 3, 1), (30, .bipush (-6), 2), (32, .if_icmp .ne 39, 3), (35, .aload_n 0, 1), (36, .getfield 7, 3), (39, .iconst 2, 1), (40, .dup2, 1), (41, .iaload, 1), (42, .iconst 1, 1), (43, .iadd, 1), (44, .iastore, 1), (45, .aload_n 0, 1), (46, .invokevirtual 106, 3), (49, .aload_n 0, 1), (50, .invokevirtual 109, 3), (53, .iload_n 1, 1), (54, .if_icmp .ne 8, 3), (57, .bipush (-6), 2), (59, .goto 5, 3), (62, .iload 4, 2), (64, .istore_n 3, 1), (65, .iinc 4 1, 3), (68, .goto (-46), 3), (71, .aload_n 0, 1), (72, .getfield 7, 3), (75, .iconst 2, 1), (76, .iload_n 2, 1), (77, .iastore, 1), (78, .iload_n 3, 1), (79, .ireturn, 1)]
theorem dX7_changesIn : iX7_changesIn.all (fun q => decide (decode cX7_changesIn q.1 = .ok q.2)) = true := by decide +kernel
abbrev wsX7_changesIn : List Cond := .code yX7_changesIn cX7_changesIn 5 (some .int) :: wT
abbrev cX7_leastPages : ByteArray := prog_9_method_54_code
def yX7_leastPages : MethodName := ⟨"PointAnswersModel", "leastPages", "()I"⟩
def iX7_leastPages : List (Nat × Instr × Nat) := [(0, .iconst 1, 1), (1, .istore_n 1, 1), (2, .iconst 0, 1), (3, .istore_n 2, 1), (4, .iload_n 2, 1), (5, .iconst 2, 1), (6, .if_icmp .ge 76, 3), (9, .iconst 0, 1), (10, .istore_n 3, 1), (11, .iconst 0, 1), (12, .istore 4, 2), (14, .iload 4, 2), (16, .aload_n 0, 1), (17, .getfield 7, 3), (20, .iconst 3, 1), (21, .iaload, 1), (22, .if_icmp .ge 43, 3), (25, .iload_n 3, 1), (26, .aload_n 0, 1), (27, .iload 4, 2), (29, .iconst 0, 1), (30, .invokevirtual 42, 3), (33, .iload_n 2, 1), (34, .if_icmp .ne 22, 3), (37, .aload_n 0, 1), (38, .iload 4, 2), (40, .invokevirtual 61, 3), (43, .ifCond .ne 13, 3), (46, .aload_n 0, 1), (47, .iload 4, 2), (49, .iconst 1, 1), (50, .invokevirtual 42, 3), (53, .goto 4, 3), (56, .iconst 0, 1), (57, .iadd, 1), (58, .istore_n 3, 1), (59, .iinc 4 1, 3), (62, .goto (-48), 3), (65, .iload_n 3, 1), (66, .iload_n 1, 1), (67, .if_icmp .le 7, 3), (70, .iload_n 3, 1), (71, .goto 4, 3), (74, .iload_n 1, 1), (75, .istore_n 1, 1), (76, .iinc 2 1, 3), (79, .goto (-75), 3), (82, .iload_n 1, 1), (83, .bipush 99, 2), (85, .if_icmp .gt 7, 3), (88, .iload_n 1, 1), (89, .goto 5, 3), (92, .bipush (-6), 2), (94, .ireturn, 1)]
theorem dX7_leastPages : iX7_leastPages.all (fun q => decide (decode cX7_leastPages q.1 = .ok q.2)) = true := by decide +kernel
abbrev wsX7_leastPages : List Cond := .code yX7_leastPages cX7_leastPages 5 (some .int) :: wT
abbrev cX7_put : ByteArray := prog_9_method_55_code
def yX7_put : MethodName := ⟨"PointAnswersModel", "put", "(J)I"⟩
def iX7_put : List (Nat × Instr × Nat) := [(0, .iconst 0, 1), (1, .istore_n 3, 1), (2, .lload_n 1, 1), (3, .lstore 4, 2), (5, .iconst 1, 1), (6, .istore 6, 2), (8, .lload 4, 2), (10, .lconst 0, 1), (11, .lcmp, 1), (12, .ifCond .eq 37, 3), (15, .iload 6, 2), (17, .ifCond .eq 32, 3), (20, .lload 4, 2), (22, .ldc2_w 164, 3), (25, .land, 1), (26, .l2i, 1), (27, .bipush 33, 2), (29, .bipush 126, 2), (31, .invokestatic 50, 3), (34, .istore 6, 2), (36, .lload 4, 2), (38, .bipush 8, 2), (40, .lushr, 1), (41, .lstore 4, 2), (43, .iinc 3 1, 3), (46, .goto (-38), 3), (49, .iload_n 3, 1), (50, .ifCond .eq 8, 3), (53, .iload 6, 2), (55, .ifCond .ne 6, 3), (58, .bipush (-2), 2), (60, .ireturn, 1), (61, .aload_n 0, 1), (62, .getfield 146, 3), (65, .iload_n 3, 1), (66, .iadd, 1), (67, .bipush 80, 2), (69, .if_icmp .le 6, 3), (72, .bipush (-4), 2), (74, .ireturn, 1), (75, .iload_n 3, 1), (76, .iconst 1, 1), (77, .isub, 1), (78, .istore 7, 2), (80, .iload 7, 2), (82, .ifCond .lt 41, 3), (85, .aload_n 0, 1), (86, .getfield 23, 3), (89, .aload_n 0, 1), (90, .getfield 146, 3), (93, .lload_n 1, 1), (94, .bipush 8, 2), (96, .iload 7, 2), (98, .imul, 1), (99, .lushr, 1), (100, .ldc2_w 164, 3), (103, .land, 1), (104, .l2i, 1), (105, .i2c, 1), (106, .castore, 1), (107, .aload_n 0, 1), (108, .dup, 1), (109, .getfield 146, 3), (112, .iconst 1, 1), (113, .iadd, 1), (114, .putfield 146, 3), (117, .iinc 7 (-1), 3), (120, .goto (-40), 3), (123, .aload_n 0, 1), (124, .getfield 146, 3), (127, .ireturn, 1)]
theorem dX7_put : iX7_put.all (fun q => decide (decode cX7_put q.1 = .ok q.2)) = true := by decide +kernel
abbrev wsX7_put : List Cond := .code yX7_put cX7_put 8 (some .int) :: wT
abbrev cX7_wipe : ByteArray := prog_9_method_56_code
def yX7_wipe : MethodName := ⟨"PointAnswersModel", "wipe", "()I"⟩
def iX7_wipe : List (Nat × Instr × Nat) := [(0, .aload_n 0, 1), (1, .getfield 146, 3), (4, .istore_n 1, 1), (5, .aload_n 0, 1), (6, .iconst 0, 1), (7, .putfield 146, 3), (10, .iload_n 1, 1), (11, .ireturn, 1)]
theorem dX7_wipe : iX7_wipe.all (fun q => decide (decode cX7_wipe q.1 = .ok q.2)) = true := by decide +kernel
abbrev wsX7_wipe : List Cond := .code yX7_wipe cX7_wipe 2 (some .int) :: wT
abbrev cX7_letter : ByteArray := prog_9_method_57_code
def yX7_letter : MethodName := ⟨"PointAnswersModel", "letter", "()I"⟩
def iX7_letter : List (Nat × Instr × Nat) := [(0, .aload_n 0, 1), (1, .getfield 166, 3), (4, .aload_n 0, 1), (5, .getfield 146, 3), (8, .if_icmp .ge 15, 3), (11, .aload_n 0, 1), (12, .getfield 23, 3), (15, .aload_n 0, 1), (16, .getfield 166, 3), (19, .caload, 1), (20, .goto 5, 3), (23, .bipush (-6), 2), (25, .ireturn, 1)]
theorem dX7_letter : iX7_letter.all (fun q => decide (decode cX7_letter q.1 = .ok q.2)) = true := by decide +kernel
abbrev wsX7_letter : List Cond := .code yX7_letter cX7_letter 1 (some .int) :: wT
abbrev cX7_wants : ByteArray := prog_9_method_58_code
def yX7_wants : MethodName := ⟨"PointAnswersModel", "wants", "(Z)V"⟩
def iX7_wants : List (Nat × Instr × Nat) := [(0, .aload_n 0, 1), (1, .getfield 169, 3), (4, .bipush (-6), 2), (6, .if_icmp .ne 30, 3), (9, .aload_n 0, 1), (10, .iload_n 1, 1), (11, .ifCond .eq 8, 3), (14, .bipush (-6), 2), (16, .goto 7, 3), (19, .aload_n 0, 1), (20, .getfield 166, 3), (23, .putfield 169, 3), (26, .aload_n 0, 1), (27, .dup, 1), (28, .getfield 166, 3), (31, .iconst 1, 1), (32, .iadd, 1), (33, .putfield 166, 3), (36, .return_, 1)]
theorem dX7_wants : iX7_wants.all (fun q => decide (decode cX7_wants q.1 = .ok q.2)) = true := by decide +kernel
abbrev wsX7_wants : List Cond := .code yX7_wants cX7_wants 2 none :: wT
abbrev cX7_digit : ByteArray := prog_9_method_59_code
def yX7_digit : MethodName := ⟨"PointAnswersModel", "digit", "(II)I"⟩
def iX7_digit : List (Nat × Instr × Nat) := [(0, .aload_n 0, 1), (1, .invokevirtual 172, 3), (4, .bipush 48, 2), (6, .isub, 1), (7, .istore_n 3, 1), (8, .aload_n 0, 1), (9, .iload_n 3, 1), (10, .iload_n 1, 1), (11, .iload_n 2, 1), (12, .invokestatic 50, 3), (15, .invokevirtual 175, 3), (18, .iload_n 3, 1), (19, .ireturn, 1)]
theorem dX7_digit : iX7_digit.all (fun q => decide (decode cX7_digit q.1 = .ok q.2)) = true := by decide +kernel
abbrev wsX7_digit : List Cond := .code yX7_digit cX7_digit 4 (some .int) :: wT
abbrev cX7_number : ByteArray := prog_9_method_60_code
def yX7_number : MethodName := ⟨"PointAnswersModel", "number", "()I"⟩
def iX7_number : List (Nat × Instr × Nat) := [(0, .aload_n 0, 1), (1, .iconst 0, 1), (2, .bipush 9, 2), (4, .invokevirtual 179, 3), (7, .istore_n 1, 1), (8, .aload_n 0, 1), (9, .invokevirtual 172, 3), (12, .bipush 48, 2), (14, .isub, 1), (15, .istore_n 2, 1), (16, .aload_n 0, 1), (17, .getfield 169, 3), (20, .bipush (-6), 2), (22, .if_icmp .ne 34, 3), (25, .iload_n 1, 1), (26, .ifCond .le 30, 3), (29, .iload_n 2, 1), (30, .iconst 0, 1), (31, .bipush 9, 2), (33, .invokestatic 50, 3), (36, .ifCond .eq 20, 3), (39, .bipush 10, 2), (41, .iload_n 1, 1), (42, .imul, 1), (43, .iload_n 2, 1), (44, .iadd, 1), (45, .istore_n 1, 1), (46, .aload_n 0, 1), (47, .dup, 1), (48, .getfield 166, 3), (51, .iconst 1, 1), (52, .iadd, 1), (53, .putfield 166, 3), (56, .iload_n 1, 1), (57, .ireturn, 1)]
theorem dX7_number : iX7_number.all (fun q => decide (decode cX7_number q.1 = .ok q.2)) = true := by decide +kernel
abbrev wsX7_number : List Cond := .code yX7_number cX7_number 3 (some .int) :: wT
abbrev cX7_cites : ByteArray := prog_9_method_61_code
def yX7_cites : MethodName := ⟨"PointAnswersModel", "cites", "()I"⟩
def iX7_cites : List (Nat × Instr × Nat) := [(0, .iconst 0, 1), (1, .istore_n 1, 1), (2, .aload_n 0, 1), (3, .getfield 169, 3), (6, .bipush (-6), 2), (8, .if_icmp .ne 97, 3), (11, .aload_n 0, 1), (12, .invokevirtual 172, 3), (15, .bipush 43, 2), (17, .if_icmp .ne 88, 3), (20, .aload_n 0, 1), (21, .dup, 1), (22, .getfield 166, 3), (25, .iconst 1, 1), (26, .iadd, 1), (27, .putfield 166, 3), (30, .aload_n 0, 1), (31, .iconst 0, 1), (32, .bipush 9, 2), (34, .invokevirtual 179, 3), (37, .istore_n 2, 1), (38, .aload_n 0, 1), (39, .getfield 169, 3), (42, .bipush (-6), 2), (44, .if_icmp .ne 9, 3), (47, .iconst 1, 1), (48, .iload_n 2, 1), (49, .ishl, 1), (50, .goto 4, 3), (53, .iconst 0, 1), (54, .istore_n 1, 1), (55, .aload_n 0, 1), (56, .getfield 169, 3), (59, .bipush (-6), 2), (61, .if_icmp .ne 44, 3), (64, .aload_n 0, 1), (65, .invokevirtual 172, 3), (68, .bipush 48, 2), (70, .isub, 1), (71, .iconst 0, 1), (72, .bipush 9, 2), (74, .invokestatic 50, 3), (77, .ifCond .eq 28, 3), (80, .iload_n 1, 1), (81, .iconst 1, 1), (82, .aload_n 0, 1), (83, .invokevirtual 172, 3), (86, .bipush 48, 2), (88, .isub, 1), (89, .ishl, 1), (90, .ior, 1), (91, .istore_n 1, 1), (92, .aload_n 0, 1), (93, .dup, 1), (94, .getfield 166, 3), (97, .iconst 1, 1), (98, .iadd, 1), (99, .putfield 166, 3), (102, .goto (-47), 3), (105, .iload_n 1, 1), (106, .ireturn, 1)]
theorem dX7_cites : iX7_cites.all (fun q => decide (decode cX7_cites q.1 = .ok q.2)) = true := by decide +kernel
abbrev wsX7_cites : List Cond := .code yX7_cites cX7_cites 3 (some .int) :: wT
abbrev cX7_readOrder : ByteArray := prog_9_method_62_code
def yX7_readOrder : MethodName := ⟨"PointAnswersModel", "readOrder", "()V"⟩
def iX7_readOrder : List (Nat × Instr × Nat) := [(0, .iconst 4, 1), (1, .aload_n 0, 1), (2, .getfield 182, 3), (5, .imul, 1), (6, .istore_n 1, 1), (7, .aload_n 0, 1), (8, .invokevirtual 172, 3), (11, .istore_n 2, 1), (12, .aload_n 0, 1), (13, .getfield 39, 3), (16, .iload_n 1, 1), (17, .iload_n 2, 1), (18, .iastore, 1), (19, .aload_n 0, 1), (20, .iload_n 2, 1), (21, .bipush 99, 2), (23, .if_icmp .eq 33, 3), (26, .iload_n 2, 1), (27, .bipush 97, 2), (29, .if_icmp .eq 27, 3), (32, .iload_n 2, 1), (33, .bipush 119, 2), (35, .if_icmp .eq 21, 3), (38, .iload_n 2, 1), (39, .bipush 114, 2), (41, .if_icmp .eq 15, 3), (44, .iload_n 2, 1), (45, .bipush 111, 2), (47, .if_icmp .eq 9, 3), (50, .iload_n 2, 1), (51, .bipush 116, 2), (53, .if_icmp .ne 7, 3), (56, .iconst 1, 1), (57, .goto 4, 3), (60, .iconst 0, 1), (61, .invokevirtual 175, 3), (64, .aload_n 0, 1), (65, .getfield 39, 3), (68, .iload_n 1, 1), (69, .iconst 1, 1), (70, .iadd, 1), (71, .iload_n 2, 1), (72, .bipush 99, 2), (74, .if_icmp .ne 12, 3), (77, .aload_n 0, 1), (78, .iconst 0, 1), (79, .iconst 1, 1), (80, .invokevirtual 179, 3), (83, .goto 23, 3), (86, .iload_n 2, 1), (87, .bipush 111, 2), (89, .if_icmp .ne 13, 3), (92, .aload_n 0, 1), (93, .iconst 0, 1), (94, .bipush 9, 2), (96, .invokevirtual 179, 3), (99, .goto 7, 3), (102, .aload_n 0, 1), (103, .invokevirtual 185, 3), (106, .iastore, 1), (107, .iload_n 2, 1), (108, .bipush 99, 2), (110, .if_icmp .eq 9, 3), (113, .iload_n 2, 1), (114, .bipush 97, 2), (116, .if_icmp .ne 48, 3), (119, .aload_n 0, 1), (120, .aload_n 0, 1), (121, .invokevirtual 172, 3), (124, .bipush 47, 2), (126, .if_icmp .ne 7, 3), (129, .iconst 1, 1), (130, .goto 4, 3), (133, .iconst 0, 1), (134, .invokevirtual 175, 3), (137, .aload_n 0, 1), (138, .getfield 39, 3), (141, .iload_n 1, 1), (142, .iconst 2, 1), (143, .iadd, 1), (144, .aload_n 0, 1), (145, .iconst 1, 1), (146, .bipush 9, 2), (148, .invokevirtual 179, 3), (151, .iastore, 1), (152, .aload_n 0, 1), (153, .getfield 39, 3), (156, .iload_n 1, 1), (157, .iconst 3, 1), (158, .iadd, 1), (159, .aload_n 0, 1), (160, .invokevirtual 188, 3), (163, .iastore, 1), (164, .aload_n 0, 1), (165, .dup, 1), (166, .getfield 182, 3), (169, .iconst 1, 1), (170, .iadd, 1), (171, .putfield 182, 3), (174, .return_, 1)]
theorem dX7_readOrder : iX7_readOrder.all (fun q => decide (decode cX7_readOrder q.1 = .ok q.2)) = true := by decide +kernel
abbrev wsX7_readOrder : List Cond := .code yX7_readOrder cX7_readOrder 3 none :: wT
abbrev cX7_readPad : ByteArray := prog_9_method_63_code
def yX7_readPad : MethodName := ⟨"PointAnswersModel", "readPad", "()I"⟩
def iX7_readPad : List (Nat × Instr × Nat) := [(0, .aload_n 0, 1), (1, .iconst 0, 1), (2, .putfield 182, 3), (5, .aload_n 0, 1), (6, .iconst 0, 1), (7, .putfield 166, 3), (10, .aload_n 0, 1), (11, .bipush (-6), 2), (13, .putfield 169, 3), (16, .iconst 1, 1), (17, .istore_n 1, 1), (18, .iload_n 1, 1), (19, .ifCond .eq 73, 3), (22, .aload_n 0, 1), (23, .invokevirtual 191, 3), (26, .aload_n 0, 1), (27, .getfield 169, 3), (30, .bipush (-6), 2), (32, .if_icmp .ne 18, 3), (35, .aload_n 0, 1), (36, .getfield 166, 3), (39, .aload_n 0, 1), (40, .getfield 146, 3), (43, .if_icmp .ge 7, 3), (46, .iconst 1, 1), (47, .goto 4, 3), (50, .iconst 0, 1), (51, .istore_n 1, 1), (52, .iload_n 1, 1), (53, .ifCond .eq (-35), 3), (56, .aload_n 0, 1), (57, .aload_n 0, 1), (58, .invokevirtual 172, 3), (61, .bipush 59, 2), (63, .if_icmp .ne 7, 3), (66, .iconst 1, 1), (67, .goto 4, 3), (70, .iconst 0, 1), (71, .invokevirtual 175, 3), (74, .aload_n 0, 1), (75, .getfield 169, 3), (78, .bipush (-6), 2), (80, .if_icmp .ne 7, 3), (83, .iconst 1, 1), (84, .goto 4, 3), (87, .iconst 0, 1), (88, .istore_n 1, 1), (89, .goto (-71), 3), (92, .aload_n 0, 1), (93, .getfield 169, 3), (96, .ireturn, 1)]
theorem dX7_readPad : iX7_readPad.all (fun q => decide (decode cX7_readPad q.1 = .ok q.2)) = true := by decide +kernel
abbrev wsX7_readPad : List Cond := .code yX7_readPad cX7_readPad 2 (some .int) :: wT
abbrev cX7_fault : ByteArray := prog_9_method_64_code
def yX7_fault : MethodName := ⟨"PointAnswersModel", "fault", "()I"⟩
def iX7_fault : List (Nat × Instr × Nat) := [(0, .aload_n 0, 1), (1, .invokevirtual 194, 3), (4, .ireturn, 1)]
theorem dX7_fault : iX7_fault.all (fun q => decide (decode cX7_fault q.1 = .ok q.2)) = true := by decide +kernel
abbrev wsX7_fault : List Cond := .code yX7_fault cX7_fault 1 (some .int) :: wT
abbrev cX7_whyNot : ByteArray := prog_9_method_65_code
def yX7_whyNot : MethodName := ⟨"PointAnswersModel", "whyNot", "(IIII)I"⟩
def iX7_whyNot : List (Nat × Instr × Nat) := [(0, .iload_n 1, 1), (1, .lookupswitch 87 #[(97, 60), (99, 51), (114, 75), (116, 81), (119, 69)], 51), (52, .aload_n 0, 1), (53, .iload_n 2, 1), (54, .iload_n 3, 1), (55, .iload 4, 2), (57, .invokevirtual 88, 3), (60, .ireturn, 1), (61, .aload_n 0, 1), (62, .iload_n 2, 1), (63, .iload_n 3, 1), (64, .iload 4, 2), (66, .invokevirtual 99, 3), (69, .ireturn, 1), (70, .aload_n 0, 1), (71, .iload_n 2, 1), (72, .invokevirtual 102, 3), (75, .ireturn, 1), (76, .aload_n 0, 1), (77, .iload_n 2, 1), (78, .invokevirtual 116, 3), (81, .ireturn, 1), (82, .aload_n 0, 1), (83, .iload_n 2, 1), (84, .invokevirtual 122, 3), (87, .ireturn, 1), (88, .iconst 0, 1), (89, .ireturn, 1)]
theorem dX7_whyNot : iX7_whyNot.all (fun q => decide (decode cX7_whyNot q.1 = .ok q.2)) = true := by decide +kernel
abbrev wsX7_whyNot : List Cond := .code yX7_whyNot cX7_whyNot 5 (some .int) :: wT
abbrev cX7_does : ByteArray := prog_9_method_66_code
def yX7_does : MethodName := ⟨"PointAnswersModel", "does", "(I)Z"⟩
def iX7_does : List (Nat × Instr × Nat) := [(0, .aload_n 0, 1), (1, .getfield 39, 3), (4, .iconst 4, 1), (5, .iload_n 1, 1), (6, .imul, 1), (7, .iconst 1, 1), (8, .iadd, 1), (9, .iaload, 1), (10, .istore_n 2, 1), (11, .aload_n 0, 1), (12, .getfield 39, 3), (15, .iconst 4, 1), (16, .iload_n 1, 1), (17, .imul, 1), (18, .iconst 2, 1), (19, .iadd, 1), (20, .iaload, 1), (21, .istore_n 3, 1), (22, .aload_n 0, 1), (23, .getfield 39, 3), (26, .iconst 4, 1), (27, .iload_n 1, 1), (28, .imul, 1), (29, .iconst 3, 1), (30, .iadd, 1), (31, .iaload, 1), (32, .istore 4, 2), (34, .aload_n 0, 1), (35, .aload_n 0, 1), (36, .getfield 39, 3), (39, .iconst 4, 1), (40, .iload_n 1, 1), (41, .imul, 1), (42, .iaload, 1), (43, .iload_n 2, 1), (44, .iload_n 3, 1), (45, .iload 4, 2), (47, .invokevirtual 197, 3), (50, .ifCond .ge 5, 3), (53, .iconst 0, 1), (54, .ireturn, 1), (55, .aload_n 0, 1), (56, .getfield 39, 3), (59, .iconst 4, 1), (60, .iload_n 1, 1), (61, .imul, 1), (62, .iaload, 1), (63, .lookupswitch 122 #[(97, 63), (99, 49), (114, 94), (116, 109), (119, 83)], 49), (112, .aload_n 0, 1), (113, .iload_n 2, 1), (114, .bipush (-6), 2), (116, .iload_n 3, 1), (117, .iload 4, 2), (119, .invokevirtual 92, 3), (122, .pop, 1), (123, .goto 68, 3), (126, .aload_n 0, 1), (127, .iconst 1, 1), (128, .aload_n 0, 1), (129, .iload_n 2, 1), (130, .iconst 0, 1), (131, .invokevirtual 42, 3), (134, .isub, 1), (135, .iload_n 2, 1), (136, .iload_n 3, 1), (137, .iload 4, 2), (139, .invokevirtual 92, 3), (142, .pop, 1), (143, .goto 48, 3), (146, .aload_n 0, 1), (147, .iload_n 2, 1), (148, .bipush 6, 2), (150, .iconst 1, 1), (151, .invokevirtual 81, 3), (154, .goto 37, 3), (157, .aload_n 0, 1), (158, .iload_n 2, 1), (159, .iconst 3, 1), (160, .aload_n 0, 1), (161, .getfield 7, 3), (164, .iconst 2, 1), (165, .iaload, 1), (166, .invokevirtual 81, 3), (169, .goto 22, 3), (172, .aload_n 0, 1), (173, .getfield 7, 3), (176, .iconst 2, 1), (177, .dup2, 1), (178, .iaload, 1), (179, .iload_n 2, 1), (180, .iadd, 1), (181, .iastore, 1), (182, .goto 9, 3), (185, .aload_n 0, 1), (186, .iload_n 2, 1), (187, .invokevirtual 119, 3), (190, .pop, 1), (191, .iconst 1, 1), (192, .ireturn, 1)]
theorem dX7_does : iX7_does.all (fun q => decide (decode cX7_does q.1 = .ok q.2)) = true := by decide +kernel
abbrev wsX7_does : List Cond := .code yX7_does cX7_does 5 (some .boolean) :: wT
abbrev cX7_carryOut : ByteArray := prog_9_method_67_code
def yX7_carryOut : MethodName := ⟨"PointAnswersModel", "carryOut", "()I"⟩
def iX7_carryOut : List (Nat × Instr × Nat) := [(0, .aload_n 0, 1), (1, .invokevirtual 194, 3), (4, .bipush (-6), 2), (6, .if_icmp .eq 6, 3), (9, .bipush (-3), 2), (11, .ireturn, 1), (12, .aload_n 0, 1), (13, .invokevirtual 54, 3), (16, .iconst 0, 1), (17, .istore_n 1, 1), (18, .iload_n 1, 1), (19, .aload_n 0, 1), (20, .getfield 182, 3), (23, .if_icmp .ge 17, 3), (26, .aload_n 0, 1), (27, .iload_n 1, 1), (28, .invokevirtual 200, 3), (31, .ifCond .eq 9, 3), (34, .iinc 1 1, 3), (37, .goto (-19), 3), (40, .aload_n 0, 1), (41, .iconst 0, 1), (42, .putfield 146, 3), (45, .iload_n 1, 1), (46, .ireturn, 1)]
theorem dX7_carryOut : iX7_carryOut.all (fun q => decide (decode cX7_carryOut q.1 = .ok q.2)) = true := by decide +kernel
abbrev wsX7_carryOut : List Cond := .code yX7_carryOut cX7_carryOut 2 (some .int) :: wT
abbrev cJ9_max_7cf53 : ByteArray := prog_11_method_65_code
def yJ9_max_7cf53 : MethodName := ⟨"java/lang/Math", "max", "(II)I"⟩
def iJ9_max_7cf53 : List (Nat × Instr × Nat) := [(0, .iload_n 0, 1), (1, .iload_n 1, 1), (2, .if_icmp .lt 7, 3), (5, .iload_n 0, 1), (6, .goto 4, 3), (9, .iload_n 1, 1), (10, .ireturn, 1)]
theorem dJ9_max_7cf53 : iJ9_max_7cf53.all (fun q => decide (decode cJ9_max_7cf53 q.1 = .ok q.2)) = true := by decide +kernel
abbrev wsJ9_max_7cf53 : List Cond := .code yJ9_max_7cf53 cJ9_max_7cf53 2 (some .int) :: wT
abbrev cJ9_min_7cf53 : ByteArray := prog_11_method_69_code
def yJ9_min_7cf53 : MethodName := ⟨"java/lang/Math", "min", "(II)I"⟩
def iJ9_min_7cf53 : List (Nat × Instr × Nat) := [(0, .iload_n 0, 1), (1, .iload_n 1, 1), (2, .if_icmp .gt 7, 3), (5, .iload_n 0, 1), (6, .goto 4, 3), (9, .iload_n 1, 1), (10, .ireturn, 1)]
theorem dJ9_min_7cf53 : iJ9_min_7cf53.all (fun q => decide (decode cJ9_min_7cf53 q.1 = .ok q.2)) = true := by decide +kernel
abbrev wsJ9_min_7cf53 : List Cond := .code yJ9_min_7cf53 cJ9_min_7cf53 2 (some .int) :: wT
def iL_law : List (Nat × Instr × Nat) := [(0, .new 7, 3), (3, .dup, 1), (4, .invokespecial 9, 3), (7, .astore_n 1, 1), (8, .new 10, 3), (11, .dup, 1), (12, .invokespecial 12, 3), (15, .astore_n 2, 1), (16, .iconst 0, 1), (17, .istore_n 3, 1), (18, .iload_n 3, 1), (19, .aload_n 0, 1), (20, .arraylength, 1), (21, .iconst 4, 1), (22, .isub, 1), (23, .if_icmp .gt 682, 3), (26, .aload_n 0, 1), (27, .iload_n 3, 1), (28, .iaload, 1), (29, .bipush 31, 2), (31, .iand, 1), (32, .tableswitch 667 0 22 #[108, 141, 184, 227, 250, 273, 296, 319, 352, 375, 398, 421, 444, 467, 490, 503, 516, 569, 582, 595, 608, 621, 644], 108), (140, .aload_n 1, 1), (141, .aload_n 0, 1), (142, .iload_n 3, 1), (143, .iconst 1, 1), (144, .iadd, 1), (145, .iaload, 1), (146, .aload_n 0, 1), (147, .iload_n 3, 1), (148, .iconst 2, 1), (149, .iadd, 1), (150, .iaload, 1), (151, .invokevirtual 13, 3), (154, .aload_n 2, 1), (155, .aload_n 0, 1), (156, .iload_n 3, 1), (157, .iconst 1, 1), (158, .iadd, 1), (159, .iaload, 1), (160, .aload_n 0, 1), (161, .iload_n 3, 1), (162, .iconst 2, 1), (163, .iadd, 1), (164, .iaload, 1), (165, .invokevirtual 17, 3), (168, .if_icmp .eq 531, 3), (171, .iconst 0, 1), (172, .ireturn, 1), (173, .aload_n 1, 1), (174, .aload_n 0, 1), (175, .iload_n 3, 1), (176, .iconst 1, 1), (177, .iadd, 1), (178, .iaload, 1), (179, .aload_n 0, 1), (180, .iload_n 3, 1), (181, .iconst 2, 1), (182, .iadd, 1), (183, .iaload, 1), (184, .aload_n 0, 1), (185, .iload_n 3, 1), (186, .iconst 3, 1), (187, .iadd, 1), (188, .iaload, 1), (189, .invokevirtual 18, 3), (192, .aload_n 2, 1), (193, .aload_n 0, 1), (194, .iload_n 3, 1), (195, .iconst 1, 1), (196, .iadd, 1), (197, .iaload, 1), (198, .aload_n 0, 1), (199, .iload_n 3, 1), (200, .iconst 2, 1), (201, .iadd, 1), (202, .iaload, 1), (203, .aload_n 0, 1), (204, .iload_n 3, 1), (205, .iconst 3, 1), (206, .iadd, 1), (207, .iaload, 1), (208, .invokevirtual 22, 3), (211, .if_icmp .eq 488, 3), (214, .iconst 0, 1), (215, .ireturn, 1), (216, .aload_n 1, 1), (217, .aload_n 0, 1), (218, .iload_n 3, 1), (219, .iconst 1, 1), (220, .iadd, 1), (221, .iaload, 1), (222, .aload_n 0, 1), (223, .iload_n 3, 1), (224, .iconst 2, 1), (225, .iadd, 1), (226, .iaload, 1), (227, .aload_n 0, 1), (228, .iload_n 3, 1), (229, .iconst 3, 1), (230, .iadd, 1), (231, .iaload, 1), (232, .invokevirtual 23, 3), (235, .aload_n 2, 1), (236, .aload_n 0, 1), (237, .iload_n 3, 1), (238, .iconst 1, 1), (239, .iadd, 1), (240, .iaload, 1), (241, .aload_n 0, 1), (242, .iload_n 3, 1), (243, .iconst 2, 1), (244, .iadd, 1), (245, .iaload, 1), (246, .aload_n 0, 1), (247, .iload_n 3, 1), (248, .iconst 3, 1), (249, .iadd, 1), (250, .iaload, 1), (251, .invokevirtual 26, 3), (254, .if_icmp .eq 445, 3), (257, .iconst 0, 1), (258, .ireturn, 1), (259, .aload_n 1, 1), (260, .aload_n 0, 1), (261, .iload_n 3, 1), (262, .iconst 1, 1), (263, .iadd, 1), (264, .iaload, 1), (265, .invokevirtual 27, 3), (268, .aload_n 2, 1), (269, .aload_n 0, 1), (270, .iload_n 3, 1), (271, .iconst 1, 1), (272, .iadd, 1), (273, .iaload, 1), (274, .invokevirtual 31, 3), (277, .if_icmp .eq 422, 3), (280, .iconst 0, 1), (281, .ireturn, 1), (282, .aload_n 1, 1), (283, .aload_n 0, 1), (284, .iload_n 3, 1), (285, .iconst 1, 1), (286, .iadd, 1), (287, .iaload, 1), (288, .invokevirtual 32, 3), (291, .aload_n 2, 1), (292, .aload_n 0, 1), (293, .iload_n 3, 1), (294, .iconst 1, 1), (295, .iadd, 1), (296, .iaload, 1), (297, .invokevirtual 35, 3), (300, .if_icmp .eq 399, 3), (303, .iconst 0, 1), (304, .ireturn, 1), (305, .aload_n 1, 1), (306, .aload_n 0, 1), (307, .iload_n 3, 1), (308, .iconst 1, 1), (309, .iadd, 1), (310, .iaload, 1), (311, .invokevirtual 36, 3), (314, .aload_n 2, 1), (315, .aload_n 0, 1), (316, .iload_n 3, 1), (317, .iconst 1, 1), (318, .iadd, 1), (319, .iaload, 1), (320, .invokevirtual 39, 3), (323, .if_icmp .eq 376, 3), (326, .iconst 0, 1), (327, .ireturn, 1), (328, .aload_n 1, 1), (329, .aload_n 0, 1), (330, .iload_n 3, 1), (331, .iconst 1, 1), (332, .iadd, 1), (333, .iaload, 1), (334, .invokevirtual 40, 3), (337, .aload_n 2, 1), (338, .aload_n 0, 1), (339, .iload_n 3, 1), (340, .iconst 1, 1), (341, .iadd, 1), (342, .iaload, 1), (343, .invokevirtual 43, 3), (346, .if_icmp .eq 353, 3), (349, .iconst 0, 1), (350, .ireturn, 1), (351, .aload_n 1, 1), (352, .aload_n 0, 1), (353, .iload_n 3, 1), (354, .iconst 1, 1), (355, .iadd, 1), (356, .iaload, 1), (357, .aload_n 0, 1), (358, .iload_n 3, 1), (359, .iconst 2, 1), (360, .iadd, 1), (361, .iaload, 1), (362, .invokevirtual 44, 3), (365, .aload_n 2, 1), (366, .aload_n 0, 1), (367, .iload_n 3, 1), (368, .iconst 1, 1), (369, .iadd, 1), (370, .iaload, 1), (371, .aload_n 0, 1), (372, .iload_n 3, 1), (373, .iconst 2, 1), (374, .iadd, 1), (375, .iaload, 1), (376, .invokevirtual 47, 3), (379, .if_icmp .eq 320, 3), (382, .iconst 0, 1), (383, .ireturn, 1), (384, .aload_n 1, 1), (385, .aload_n 0, 1), (386, .iload_n 3, 1), (387, .iconst 1, 1), (388, .iadd, 1), (389, .iaload, 1), (390, .invokevirtual 48, 3), (393, .aload_n 2, 1), (394, .aload_n 0, 1), (395, .iload_n 3, 1), (396, .iconst 1, 1), (397, .iadd, 1), (398, .iaload, 1), (399, .invokevirtual 51, 3), (402, .if_icmp .eq 297, 3), (405, .iconst 0, 1), (406, .ireturn, 1), (407, .aload_n 1, 1), (408, .aload_n 0, 1), (409, .iload_n 3, 1), (410, .iconst 1, 1), (411, .iadd, 1), (412, .iaload, 1), (413, .invokevirtual 52, 3), (416, .aload_n 2, 1), (417, .aload_n 0, 1), (418, .iload_n 3, 1), (419, .iconst 1, 1), (420, .iadd, 1), (421, .iaload, 1), (422, .invokevirtual 55, 3), (425, .if_icmp .eq 274, 3), (428, .iconst 0, 1), (429, .ireturn, 1), (430, .aload_n 1, 1), (431, .aload_n 0, 1), (432, .iload_n 3, 1), (433, .iconst 1, 1), (434, .iadd, 1), (435, .iaload, 1), (436, .invokevirtual 56, 3), (439, .aload_n 2, 1), (440, .aload_n 0, 1), (441, .iload_n 3, 1), (442, .iconst 1, 1), (443, .iadd, 1), (444, .iaload, 1), (445, .invokevirtual 59, 3), (448, .if_icmp .eq 251, 3), (451, .iconst 0, 1), (452, .ireturn, 1), (453, .aload_n 1, 1), (454, .aload_n 0, 1), (455, .iload_n 3, 1), (456, .iconst 1, 1), (457, .iadd, 1), (458, .iaload, 1), (459, .invokevirtual 60, 3), (462, .aload_n 2, 1), (463, .aload_n 0, 1), (464, .iload_n 3, 1), (465, .iconst 1, 1), (466, .iadd, 1), (467, .iaload, 1), (468, .invokevirtual 63, 3), (471, .if_icmp .eq 228, 3), (474, .iconst 0, 1), (475, .ireturn, 1), (476, .aload_n 1, 1), (477, .aload_n 0, 1), (478, .iload_n 3, 1), (479, .iconst 1, 1), (480, .iadd, 1), (481, .iaload, 1), (482, .invokevirtual 64, 3), (485, .aload_n 2, 1), (486, .aload_n 0, 1), (487, .iload_n 3, 1), (488, .iconst 1, 1), (489, .iadd, 1), (490, .iaload, 1), (491, .invokevirtual 67, 3), (494, .if_icmp .eq 205, 3), (497, .iconst 0, 1), (498, .ireturn, 1), (499, .aload_n 1, 1), (500, .aload_n 0, 1), (501, .iload_n 3, 1), (502, .iconst 1, 1), (503, .iadd, 1), (504, .iaload, 1), (505, .invokevirtual 68, 3), (508, .aload_n 2, 1), (509, .aload_n 0, 1), (510, .iload_n 3, 1), (511, .iconst 1, 1), (512, .iadd, 1), (513, .iaload, 1), (514, .invokevirtual 71, 3), (517, .if_icmp .eq 182, 3), (520, .iconst 0, 1), (521, .ireturn, 1), (522, .aload_n 1, 1), (523, .invokevirtual 72, 3), (526, .aload_n 2, 1), (527, .invokevirtual 76, 3), (530, .if_icmp .eq 169, 3), (533, .iconst 0, 1), (534, .ireturn, 1), (535, .aload_n 1, 1), (536, .invokevirtual 77, 3), (539, .aload_n 2, 1), (540, .invokevirtual 80, 3), (543, .if_icmp .eq 156, 3), (546, .iconst 0, 1), (547, .ireturn, 1), (548, .aload_n 1, 1), (549, .aload_n 0, 1), (550, .iload_n 3, 1), (551, .iconst 1, 1), (552, .iadd, 1), (553, .iaload, 1), (554, .i2l, 1), (555, .bipush 32, 2), (557, .lshl, 1), (558, .aload_n 0, 1), (559, .iload_n 3, 1), (560, .iconst 2, 1), (561, .iadd, 1), (562, .iaload, 1), (563, .i2l, 1), (564, .ldc2_w 81, 3), (567, .land, 1), (568, .lor, 1), (569, .invokevirtual 83, 3), (572, .aload_n 2, 1), (573, .aload_n 0, 1), (574, .iload_n 3, 1), (575, .iconst 1, 1), (576, .iadd, 1), (577, .iaload, 1), (578, .i2l, 1), (579, .bipush 32, 2), (581, .lshl, 1), (582, .aload_n 0, 1), (583, .iload_n 3, 1), (584, .iconst 2, 1), (585, .iadd, 1), (586, .iaload, 1), (587, .i2l, 1), (588, .ldc2_w 81, 3), (591, .land, 1), (592, .lor, 1), (593, .invokevirtual 87, 3), (596, .if_icmp .eq 103, 3), (599, .iconst 0, 1), (600, .ireturn, 1), (601, .aload_n 1, 1), (602, .invokevirtual 88, 3), (605, .aload_n 2, 1), (606, .invokevirtual 91, 3), (609, .if_icmp .eq 90, 3), (612, .iconst 0, 1), (613, .ireturn, 1), (614, .aload_n 1, 1), (615, .invokevirtual 92, 3), (618, .aload_n 2, 1), (619, .invokevirtual 95, 3), (622, .if_icmp .eq 77, 3), (625, .iconst 0, 1), (626, .ireturn, 1), (627, .aload_n 1, 1), (628, .invokevirtual 96, 3), (631, .aload_n 2, 1), (632, .invokevirtual 99, 3), (635, .if_icmp .eq 64, 3), (638, .iconst 0, 1), (639, .ireturn, 1), (640, .aload_n 1, 1), (641, .invokevirtual 100, 3), (644, .aload_n 2, 1), (645, .invokevirtual 103, 3), (648, .if_icmp .eq 51, 3), (651, .iconst 0, 1), (652, .ireturn, 1), (653, .aload_n 1, 1), (654, .aload_n 0, 1), (655, .iload_n 3, 1), (656, .iconst 1, 1), (657, .iadd, 1), (658, .iaload, 1), (659, .invokevirtual 104, 3), (662, .aload_n 2, 1), (663, .aload_n 0, 1), (664, .iload_n 3, 1), (665, .iconst 1, 1), (666, .iadd, 1), (667, .iaload, 1), (668, .invokevirtual 107, 3), (671, .if_icmp .eq 28, 3), (674, .iconst 0, 1), (675, .ireturn, 1), (676, .aload_n 1, 1), (677, .aload_n 0, 1), (678, .iload_n 3, 1), (679, .iconst 1, 1), (680, .iadd, 1), (681, .iaload, 1), (682, .invokevirtual 108, 3), (685, .aload_n 2, 1), (686, .aload_n 0, 1), (687, .iload_n 3, 1), (688, .iconst 1, 1), (689, .iadd, 1), (690, .iaload, 1), (691, .invokevirtual 111, 3), (694, .if_icmp .eq 5, 3), (697, .iconst 0, 1), (698, .ireturn, 1), (699, .iinc 3 4, 3), (702, .goto (-684), 3), (705, .iconst 1, 1), (706, .ireturn, 1)]
theorem dL_law : iL_law.all (fun q => decide (decode code q.1 = .ok q.2)) = true := by decide +kernel
theorem tw_0 : Cond.selects "PointAnswers$History" ⟨"PointAnswers$History", "prepare", "(LPointAnswers$Bundle;)V"⟩ ⟨"PointAnswers$History", "prepare", "(LPointAnswers$Bundle;)V"⟩ ∈ wT := tw 0 (by decide +kernel) rfl
theorem tw_1 : Cond.selects "PointAnswers$History" ⟨"PointAnswers$History", "rowAt", "(I)LPointAnswers$Bundle;"⟩ ⟨"PointAnswers$History", "rowAt", "(I)LPointAnswers$Bundle;"⟩ ∈ wT := tw 1 (by decide +kernel) rfl
theorem tw_2 : Cond.selects "PointAnswers$Bundle" ⟨"PointAnswers$Bundle", "become", "(LPointAnswers$Bundle;)V"⟩ ⟨"PointAnswers$Bundle", "become", "(LPointAnswers$Bundle;)V"⟩ ∈ wT := tw 2 (by decide +kernel) rfl
theorem tw_3 : Cond.selects "PointAnswers$Bundle" ⟨"PointAnswers$Bundle", "find", "(I)LPointAnswers$Point;"⟩ ⟨"PointAnswers$Bundle", "find", "(I)LPointAnswers$Point;"⟩ ∈ wT := tw 3 (by decide +kernel) rfl
theorem tw_4 : Cond.selects "PointAnswers$Point" ⟨"PointAnswers$Point", "become", "(LPointAnswers$Point;)V"⟩ ⟨"PointAnswers$Point", "become", "(LPointAnswers$Point;)V"⟩ ∈ wT := tw 4 (by decide +kernel) rfl
theorem tw_5 : Cond.selects "PointAnswers$Bundle" ⟨"PointAnswers$Bundle", "adjust", "(II)I"⟩ ⟨"PointAnswers$Bundle", "adjust", "(II)I"⟩ ∈ wT := tw 5 (by decide +kernel) rfl
theorem tw_6 : Cond.selects "PointAnswers$History" ⟨"PointAnswers$History", "settle", "(I)I"⟩ ⟨"PointAnswers$History", "settle", "(I)I"⟩ ∈ wT := tw 6 (by decide +kernel) rfl
theorem tw_7 : Cond.selects "PointAnswers$History" ⟨"PointAnswers$History", "dropOldest", "()V"⟩ ⟨"PointAnswers$History", "dropOldest", "()V"⟩ ∈ wT := tw 7 (by decide +kernel) rfl
theorem tw_8 : Cond.selects "PointAnswers$Bundle" ⟨"PointAnswers$Bundle", "fileClaim", "(III)I"⟩ ⟨"PointAnswers$Bundle", "fileClaim", "(III)I"⟩ ∈ wT := tw 8 (by decide +kernel) rfl
theorem tw_9 : Cond.selects "PointAnswers$Bundle" ⟨"PointAnswers$Bundle", "file", "(IIII)I"⟩ ⟨"PointAnswers$Bundle", "file", "(IIII)I"⟩ ∈ wT := tw 9 (by decide +kernel) rfl
theorem tw_10 : Cond.selects "PointAnswers$Bundle" ⟨"PointAnswers$Bundle", "freeRow", "()LPointAnswers$Point;"⟩ ⟨"PointAnswers$Bundle", "freeRow", "()LPointAnswers$Point;"⟩ ∈ wT := tw 10 (by decide +kernel) rfl
theorem tw_11 : Cond.selects "PointAnswers$Bundle" ⟨"PointAnswers$Bundle", "fileAnswer", "(III)I"⟩ ⟨"PointAnswers$Bundle", "fileAnswer", "(III)I"⟩ ∈ wT := tw 11 (by decide +kernel) rfl
theorem tw_12 : Cond.selects "PointAnswers$Bundle" ⟨"PointAnswers$Bundle", "takeBack", "(I)I"⟩ ⟨"PointAnswers$Bundle", "takeBack", "(I)I"⟩ ∈ wT := tw 12 (by decide +kernel) rfl
theorem tw_13 : Cond.selects "PointAnswers$Bundle" ⟨"PointAnswers$Bundle", "standing", "()I"⟩ ⟨"PointAnswers$Bundle", "standing", "()I"⟩ ∈ wT := tw 13 (by decide +kernel) rfl
theorem tw_14 : Cond.selects "PointAnswers$Bundle" ⟨"PointAnswers$Bundle", "out", "()I"⟩ ⟨"PointAnswers$Bundle", "out", "()I"⟩ ∈ wT := tw 14 (by decide +kernel) rfl
theorem tw_15 : Cond.selects "PointAnswers$Bundle" ⟨"PointAnswers$Bundle", "withdrawn", "()I"⟩ ⟨"PointAnswers$Bundle", "withdrawn", "()I"⟩ ∈ wT := tw 15 (by decide +kernel) rfl
theorem tw_16 : Cond.selects "PointAnswers$Bundle" ⟨"PointAnswers$Bundle", "struck", "()I"⟩ ⟨"PointAnswers$Bundle", "struck", "()I"⟩ ∈ wT := tw 16 (by decide +kernel) rfl
theorem tw_17 : Cond.selects "PointAnswers$Bundle" ⟨"PointAnswers$Bundle", "lapsedOn", "(I)I"⟩ ⟨"PointAnswers$Bundle", "lapsedOn", "(I)I"⟩ ∈ wT := tw 17 (by decide +kernel) rfl
theorem tw_18 : Cond.selects "PointAnswers$Bundle" ⟨"PointAnswers$Bundle", "baseless", "()I"⟩ ⟨"PointAnswers$Bundle", "baseless", "()I"⟩ ∈ wT := tw 18 (by decide +kernel) rfl
theorem tw_19 : Cond.selects "PointAnswers$Bundle" ⟨"PointAnswers$Bundle", "standingIf", "(II)I"⟩ ⟨"PointAnswers$Bundle", "standingIf", "(II)I"⟩ ∈ wT := tw 19 (by decide +kernel) rfl
theorem tw_20 : Cond.selects "PointAnswers$Bundle" ⟨"PointAnswers$Bundle", "targetOf", "(I)I"⟩ ⟨"PointAnswers$Bundle", "targetOf", "(I)I"⟩ ∈ wT := tw 20 (by decide +kernel) rfl
theorem tw_21 : Cond.selects "PointAnswers$Bundle" ⟨"PointAnswers$Bundle", "prolong", "(I)I"⟩ ⟨"PointAnswers$Bundle", "prolong", "(I)I"⟩ ∈ wT := tw 21 (by decide +kernel) rfl
theorem tw_22 : Cond.selects "PointAnswers$Bundle" ⟨"PointAnswers$Bundle", "turnCase", "(I)I"⟩ ⟨"PointAnswers$Bundle", "turnCase", "(I)I"⟩ ∈ wT := tw 22 (by decide +kernel) rfl
theorem tw_23 : Cond.selects "PointAnswers$Bundle" ⟨"PointAnswers$Bundle", "moveOn", "(I)I"⟩ ⟨"PointAnswers$Bundle", "moveOn", "(I)I"⟩ ∈ wT := tw 23 (by decide +kernel) rfl
theorem tw_24 : Cond.selects "PointAnswers$Bundle" ⟨"PointAnswers$Bundle", "reasonAgainst", "(I)I"⟩ ⟨"PointAnswers$Bundle", "reasonAgainst", "(I)I"⟩ ∈ wT := tw 24 (by decide +kernel) rfl
theorem tw_25 : Cond.selects "PointAnswers$Bundle" ⟨"PointAnswers$Bundle", "answersTo", "(I)I"⟩ ⟨"PointAnswers$Bundle", "answersTo", "(I)I"⟩ ∈ wT := tw 25 (by decide +kernel) rfl
theorem tw_26 : Cond.selects "PointAnswers$Bundle" ⟨"PointAnswers$Bundle", "depthOf", "(I)I"⟩ ⟨"PointAnswers$Bundle", "depthOf", "(I)I"⟩ ∈ wT := tw 26 (by decide +kernel) rfl
theorem tw_27 : Cond.selects "PointAnswers$Bundle" ⟨"PointAnswers$Bundle", "daysLeft", "(LPointAnswers$Point;)I"⟩ ⟨"PointAnswers$Bundle", "daysLeft", "(LPointAnswers$Point;)I"⟩ ∈ wT := tw 27 (by decide +kernel) rfl
theorem tw_28 : Cond.selects "PointAnswers$Bundle" ⟨"PointAnswers$Bundle", "claims", "()I"⟩ ⟨"PointAnswers$Bundle", "claims", "()I"⟩ ∈ wT := tw 28 (by decide +kernel) rfl
theorem tw_29 : Cond.selects "PointAnswers$Bundle" ⟨"PointAnswers$Bundle", "answered", "()I"⟩ ⟨"PointAnswers$Bundle", "answered", "()I"⟩ ∈ wT := tw 29 (by decide +kernel) rfl
theorem tw_30 : Cond.selects "PointAnswers$Bundle" ⟨"PointAnswers$Bundle", "all", "()I"⟩ ⟨"PointAnswers$Bundle", "all", "()I"⟩ ∈ wT := tw 30 (by decide +kernel) rfl
theorem tw_31 : Cond.selects "PointAnswers$Bundle" ⟨"PointAnswers$Bundle", "pagesOf", "(II)I"⟩ ⟨"PointAnswers$Bundle", "pagesOf", "(II)I"⟩ ∈ wT := tw 31 (by decide +kernel) rfl
theorem tw_32 : Cond.selects "PointAnswers$Bundle" ⟨"PointAnswers$Bundle", "ofSide", "(I)I"⟩ ⟨"PointAnswers$Bundle", "ofSide", "(I)I"⟩ ∈ wT := tw 32 (by decide +kernel) rfl
theorem tw_33 : Cond.selects "PointAnswers$Costs" ⟨"PointAnswers$Costs", "weigh", "(LPointAnswers$Bundle;)V"⟩ ⟨"PointAnswers$Costs", "weigh", "(LPointAnswers$Bundle;)V"⟩ ∈ wT := tw 33 (by decide +kernel) rfl
theorem tw_34 : Cond.selects "PointAnswers$Bundle" ⟨"PointAnswers$Bundle", "withoutAnswers", "()I"⟩ ⟨"PointAnswers$Bundle", "withoutAnswers", "()I"⟩ ∈ wT := tw 34 (by decide +kernel) rfl
theorem tw_35 : Cond.selects "PointAnswers$Costs" ⟨"PointAnswers$Costs", "addToTarget", "(III)V"⟩ ⟨"PointAnswers$Costs", "addToTarget", "(III)V"⟩ ∈ wT := tw 35 (by decide +kernel) rfl
theorem tw_36 : Cond.selects "PointAnswers$Costs" ⟨"PointAnswers$Costs", "answersToFall", "(I)I"⟩ ⟨"PointAnswers$Costs", "answersToFall", "(I)I"⟩ ∈ wT := tw 36 (by decide +kernel) rfl
theorem tw_37 : Cond.selects "PointAnswers$Costs" ⟨"PointAnswers$Costs", "answersToStand", "(I)I"⟩ ⟨"PointAnswers$Costs", "answersToStand", "(I)I"⟩ ∈ wT := tw 37 (by decide +kernel) rfl
theorem tw_38 : Cond.selects "PointAnswers$Pad" ⟨"PointAnswers$Pad", "append", "(C)V"⟩ ⟨"PointAnswers$Pad", "append", "(C)V"⟩ ∈ wT := tw 38 (by decide +kernel) rfl
theorem tw_39 : Cond.selects "PointAnswers$Pad" ⟨"PointAnswers$Pad", "empty", "()I"⟩ ⟨"PointAnswers$Pad", "empty", "()I"⟩ ∈ wT := tw 39 (by decide +kernel) rfl
theorem tw_40 : Cond.selects "PointAnswers$Reader" ⟨"PointAnswers$Reader", "firstFault", "(LPointAnswers$Pad;)I"⟩ ⟨"PointAnswers$Reader", "firstFault", "(LPointAnswers$Pad;)I"⟩ ∈ wT := tw 40 (by decide +kernel) rfl
theorem tw_41 : Cond.selects "PointAnswers$Reader" ⟨"PointAnswers$Reader", "rewind", "()V"⟩ ⟨"PointAnswers$Reader", "rewind", "()V"⟩ ∈ wT := tw 41 (by decide +kernel) rfl
theorem tw_42 : Cond.selects "PointAnswers$Reader" ⟨"PointAnswers$Reader", "readOrder", "(LPointAnswers$Pad;)Z"⟩ ⟨"PointAnswers$Reader", "readOrder", "(LPointAnswers$Pad;)Z"⟩ ∈ wT := tw 42 (by decide +kernel) rfl
theorem tw_43 : Cond.selects "PointAnswers$Pad" ⟨"PointAnswers$Pad", "signAt", "(I)C"⟩ ⟨"PointAnswers$Pad", "signAt", "(I)C"⟩ ∈ wT := tw 43 (by decide +kernel) rfl
theorem tw_44 : Cond.selects "PointAnswers$Reader" ⟨"PointAnswers$Reader", "readDigit", "(LPointAnswers$Pad;CC)Z"⟩ ⟨"PointAnswers$Reader", "readDigit", "(LPointAnswers$Pad;CC)Z"⟩ ∈ wT := tw 44 (by decide +kernel) rfl
theorem tw_45 : Cond.selects "PointAnswers$Reader" ⟨"PointAnswers$Reader", "takeDigit", "(LPointAnswers$Pad;CC)Z"⟩ ⟨"PointAnswers$Reader", "takeDigit", "(LPointAnswers$Pad;CC)Z"⟩ ∈ wT := tw 45 (by decide +kernel) rfl
theorem tw_46 : Cond.selects "PointAnswers$Reader" ⟨"PointAnswers$Reader", "readPaper", "(LPointAnswers$Pad;)Z"⟩ ⟨"PointAnswers$Reader", "readPaper", "(LPointAnswers$Pad;)Z"⟩ ∈ wT := tw 46 (by decide +kernel) rfl
theorem tw_47 : Cond.selects "PointAnswers$Reader" ⟨"PointAnswers$Reader", "take", "(LPointAnswers$Pad;C)Z"⟩ ⟨"PointAnswers$Reader", "take", "(LPointAnswers$Pad;C)Z"⟩ ∈ wT := tw 47 (by decide +kernel) rfl
theorem tw_48 : Cond.selects "PointAnswers$Reader" ⟨"PointAnswers$Reader", "readCites", "(LPointAnswers$Pad;)Z"⟩ ⟨"PointAnswers$Reader", "readCites", "(LPointAnswers$Pad;)Z"⟩ ∈ wT := tw 48 (by decide +kernel) rfl
theorem tw_49 : Cond.selects "PointAnswers$Reader" ⟨"PointAnswers$Reader", "readNumber", "(LPointAnswers$Pad;)Z"⟩ ⟨"PointAnswers$Reader", "readNumber", "(LPointAnswers$Pad;)Z"⟩ ∈ wT := tw 49 (by decide +kernel) rfl
theorem tw_50 : Cond.selects "PointAnswers" ⟨"PointAnswers", "follow", "()I"⟩ ⟨"PointAnswers", "follow", "()I"⟩ ∈ wT := tw 50 (by decide +kernel) rfl
theorem tw_51 : Cond.selects "PointAnswers$History" ⟨"PointAnswers$History", "bringBack", "(LPointAnswers$Bundle;)I"⟩ ⟨"PointAnswers$History", "bringBack", "(LPointAnswers$Bundle;)I"⟩ ∈ wT := tw 51 (by decide +kernel) rfl
theorem tw_52 : Cond.selects "PointAnswers" ⟨"PointAnswers", "slotRow", "(I)LPointAnswers$Bundle;"⟩ ⟨"PointAnswers", "slotRow", "(I)LPointAnswers$Bundle;"⟩ ∈ wT := tw 52 (by decide +kernel) rfl
theorem tw_53 : Cond.selects "PointAnswersModel" ⟨"PointAnswersModel", "record", "()V"⟩ ⟨"PointAnswersModel", "record", "()V"⟩ ∈ wT := tw 53 (by decide +kernel) rfl
theorem tw_54 : Cond.selects "PointAnswersModel" ⟨"PointAnswersModel", "whyNotClaim", "(III)I"⟩ ⟨"PointAnswersModel", "whyNotClaim", "(III)I"⟩ ∈ wT := tw 54 (by decide +kernel) rfl
theorem tw_55 : Cond.selects "PointAnswersModel" ⟨"PointAnswersModel", "file", "(IIII)I"⟩ ⟨"PointAnswersModel", "file", "(IIII)I"⟩ ∈ wT := tw 55 (by decide +kernel) rfl
theorem tw_56 : Cond.selects "PointAnswersModel" ⟨"PointAnswersModel", "lay", "(III)V"⟩ ⟨"PointAnswersModel", "lay", "(III)V"⟩ ∈ wT := tw 56 (by decide +kernel) rfl
theorem tw_57 : Cond.selects "PointAnswersModel" ⟨"PointAnswersModel", "whyNotAnswer", "(III)I"⟩ ⟨"PointAnswersModel", "whyNotAnswer", "(III)I"⟩ ∈ wT := tw 57 (by decide +kernel) rfl
theorem tw_58 : Cond.selects "PointAnswersModel" ⟨"PointAnswersModel", "isPoint", "(I)Z"⟩ ⟨"PointAnswersModel", "isPoint", "(I)Z"⟩ ∈ wT := tw 58 (by decide +kernel) rfl
theorem tw_59 : Cond.selects "PointAnswersModel" ⟨"PointAnswersModel", "isWithdrawn", "(I)Z"⟩ ⟨"PointAnswersModel", "isWithdrawn", "(I)Z"⟩ ∈ wT := tw 59 (by decide +kernel) rfl
theorem tw_60 : Cond.selects "PointAnswersModel" ⟨"PointAnswersModel", "its", "(II)I"⟩ ⟨"PointAnswersModel", "its", "(II)I"⟩ ∈ wT := tw 60 (by decide +kernel) rfl
theorem tw_61 : Cond.selects "PointAnswersModel" ⟨"PointAnswersModel", "whyNotWithdraw", "(I)I"⟩ ⟨"PointAnswersModel", "whyNotWithdraw", "(I)I"⟩ ∈ wT := tw 61 (by decide +kernel) rfl
theorem tw_62 : Cond.selects "PointAnswersModel" ⟨"PointAnswersModel", "look", "()V"⟩ ⟨"PointAnswersModel", "look", "()V"⟩ ∈ wT := tw 62 (by decide +kernel) rfl
theorem tw_63 : Cond.selects "PointAnswersModel" ⟨"PointAnswersModel", "layOut", "()V"⟩ ⟨"PointAnswersModel", "layOut", "()V"⟩ ∈ wT := tw 63 (by decide +kernel) rfl
theorem tw_64 : Cond.selects "PointAnswersModel" ⟨"PointAnswersModel", "lapsed", "(I)Z"⟩ ⟨"PointAnswersModel", "lapsed", "(I)Z"⟩ ∈ wT := tw 64 (by decide +kernel) rfl
theorem tw_65 : Cond.selects "PointAnswersModel" ⟨"PointAnswersModel", "isClaim", "(I)Z"⟩ ⟨"PointAnswersModel", "isClaim", "(I)Z"⟩ ∈ wT := tw 65 (by decide +kernel) rfl
theorem tw_66 : Cond.selects "PointAnswersModel" ⟨"PointAnswersModel", "hasNoCase", "(I)Z"⟩ ⟨"PointAnswersModel", "hasNoCase", "(I)Z"⟩ ∈ wT := tw 66 (by decide +kernel) rfl
theorem tw_67 : Cond.selects "PointAnswersModel" ⟨"PointAnswersModel", "layAnswered", "(I)V"⟩ ⟨"PointAnswersModel", "layAnswered", "(I)V"⟩ ∈ wT := tw 67 (by decide +kernel) rfl
theorem tw_68 : Cond.selects "PointAnswersModel" ⟨"PointAnswersModel", "standing", "()I"⟩ ⟨"PointAnswersModel", "standing", "()I"⟩ ∈ wT := tw 68 (by decide +kernel) rfl
theorem tw_69 : Cond.selects "PointAnswersModel" ⟨"PointAnswersModel", "whyNotRenew", "(I)I"⟩ ⟨"PointAnswersModel", "whyNotRenew", "(I)I"⟩ ∈ wT := tw 69 (by decide +kernel) rfl
theorem tw_70 : Cond.selects "PointAnswersModel" ⟨"PointAnswersModel", "overruleIt", "(I)I"⟩ ⟨"PointAnswersModel", "overruleIt", "(I)I"⟩ ∈ wT := tw 70 (by decide +kernel) rfl
theorem tw_71 : Cond.selects "PointAnswersModel" ⟨"PointAnswersModel", "whyNotPass", "(I)I"⟩ ⟨"PointAnswersModel", "whyNotPass", "(I)I"⟩ ∈ wT := tw 71 (by decide +kernel) rfl
theorem tw_72 : Cond.selects "PointAnswersModel" ⟨"PointAnswersModel", "lowestThatStands", "(I)I"⟩ ⟨"PointAnswersModel", "lowestThatStands", "(I)I"⟩ ∈ wT := tw 72 (by decide +kernel) rfl
theorem tw_73 : Cond.selects "PointAnswersModel" ⟨"PointAnswersModel", "answersTo", "(I)I"⟩ ⟨"PointAnswersModel", "answersTo", "(I)I"⟩ ∈ wT := tw 73 (by decide +kernel) rfl
theorem tw_74 : Cond.selects "PointAnswersModel" ⟨"PointAnswersModel", "depth", "(I)I"⟩ ⟨"PointAnswersModel", "depth", "(I)I"⟩ ∈ wT := tw 74 (by decide +kernel) rfl
theorem tw_75 : Cond.selects "PointAnswersModel" ⟨"PointAnswersModel", "daysYet", "(I)I"⟩ ⟨"PointAnswersModel", "daysYet", "(I)I"⟩ ∈ wT := tw 75 (by decide +kernel) rfl
theorem tw_76 : Cond.selects "PointAnswersModel" ⟨"PointAnswersModel", "claims", "()I"⟩ ⟨"PointAnswersModel", "claims", "()I"⟩ ∈ wT := tw 76 (by decide +kernel) rfl
theorem tw_77 : Cond.selects "PointAnswersModel" ⟨"PointAnswersModel", "outOnes", "()I"⟩ ⟨"PointAnswersModel", "outOnes", "()I"⟩ ∈ wT := tw 77 (by decide +kernel) rfl
theorem tw_78 : Cond.selects "PointAnswersModel" ⟨"PointAnswersModel", "answeredOnes", "()I"⟩ ⟨"PointAnswersModel", "answeredOnes", "()I"⟩ ∈ wT := tw 78 (by decide +kernel) rfl
theorem tw_79 : Cond.selects "PointAnswersModel" ⟨"PointAnswersModel", "ofSide", "(I)I"⟩ ⟨"PointAnswersModel", "ofSide", "(I)I"⟩ ∈ wT := tw 79 (by decide +kernel) rfl
theorem tw_80 : Cond.selects "PointAnswersModel" ⟨"PointAnswersModel", "layCosts", "()V"⟩ ⟨"PointAnswersModel", "layCosts", "()V"⟩ ∈ wT := tw 80 (by decide +kernel) rfl
theorem tw_81 : Cond.selects "PointAnswersModel" ⟨"PointAnswersModel", "changesBy", "(I)I"⟩ ⟨"PointAnswersModel", "changesBy", "(I)I"⟩ ∈ wT := tw 81 (by decide +kernel) rfl
theorem tw_82 : Cond.selects "PointAnswersModel" ⟨"PointAnswersModel", "readPad", "()I"⟩ ⟨"PointAnswersModel", "readPad", "()I"⟩ ∈ wT := tw 82 (by decide +kernel) rfl
theorem tw_83 : Cond.selects "PointAnswersModel" ⟨"PointAnswersModel", "readOrder", "()V"⟩ ⟨"PointAnswersModel", "readOrder", "()V"⟩ ∈ wT := tw 83 (by decide +kernel) rfl
theorem tw_84 : Cond.selects "PointAnswersModel" ⟨"PointAnswersModel", "letter", "()I"⟩ ⟨"PointAnswersModel", "letter", "()I"⟩ ∈ wT := tw 84 (by decide +kernel) rfl
theorem tw_85 : Cond.selects "PointAnswersModel" ⟨"PointAnswersModel", "wants", "(Z)V"⟩ ⟨"PointAnswersModel", "wants", "(Z)V"⟩ ∈ wT := tw 85 (by decide +kernel) rfl
theorem tw_86 : Cond.selects "PointAnswersModel" ⟨"PointAnswersModel", "digit", "(II)I"⟩ ⟨"PointAnswersModel", "digit", "(II)I"⟩ ∈ wT := tw 86 (by decide +kernel) rfl
theorem tw_87 : Cond.selects "PointAnswersModel" ⟨"PointAnswersModel", "number", "()I"⟩ ⟨"PointAnswersModel", "number", "()I"⟩ ∈ wT := tw 87 (by decide +kernel) rfl
theorem tw_88 : Cond.selects "PointAnswersModel" ⟨"PointAnswersModel", "cites", "()I"⟩ ⟨"PointAnswersModel", "cites", "()I"⟩ ∈ wT := tw 88 (by decide +kernel) rfl
theorem tw_89 : Cond.selects "PointAnswersModel" ⟨"PointAnswersModel", "does", "(I)Z"⟩ ⟨"PointAnswersModel", "does", "(I)Z"⟩ ∈ wT := tw 89 (by decide +kernel) rfl
theorem tw_90 : Cond.selects "PointAnswersModel" ⟨"PointAnswersModel", "whyNot", "(IIII)I"⟩ ⟨"PointAnswersModel", "whyNot", "(IIII)I"⟩ ∈ wT := tw 90 (by decide +kernel) rfl
theorem tw_91 : Cond.initialized "PointAnswersLaw" ∈ wT := tw 91 (by decide +kernel) rfl
theorem tw_92 : Cond.initialized "PointAnswers" ∈ wT := tw 92 (by decide +kernel) rfl
theorem tw_93 : Cond.initialized "PointAnswers$Bundle" ∈ wT := tw 93 (by decide +kernel) rfl
theorem tw_94 : Cond.initialized "PointAnswers$Point" ∈ wT := tw 94 (by decide +kernel) rfl
theorem tw_95 : Cond.initialized "PointAnswers$Costs" ∈ wT := tw 95 (by decide +kernel) rfl
theorem tw_96 : Cond.initialized "PointAnswers$Pad" ∈ wT := tw 96 (by decide +kernel) rfl
theorem tw_97 : Cond.initialized "PointAnswers$Reader" ∈ wT := tw 97 (by decide +kernel) rfl
theorem tw_98 : Cond.initialized "PointAnswers$History" ∈ wT := tw 98 (by decide +kernel) rfl
theorem tw_99 : Cond.initialized "PointAnswersModel" ∈ wT := tw 99 (by decide +kernel) rfl
theorem tw_100 : Cond.initialized "java/lang/Integer" ∈ wT := tw 100 (by decide +kernel) rfl
theorem tw_101 : Cond.initialized "java/lang/Math" ∈ wT := tw 101 (by decide +kernel) rfl
theorem tw_102 : Cond.classLink "PointAnswersLaw" 7 "PointAnswers" ∈ wT := tw 102 (by decide +kernel) rfl
theorem tw_103 : Cond.instantiable "PointAnswers" 7 ∈ wT := tw 103 (by decide +kernel) rfl
theorem tw_104 : Cond.methodLink "PointAnswersLaw" 9 ⟨"PointAnswers", "<init>", "()V"⟩ ∈ wT := tw 104 (by decide +kernel) rfl
theorem tw_105 : Cond.instanceMethod ⟨"PointAnswers", "<init>", "()V"⟩ ∈ wT := tw 105 (by decide +kernel) rfl
theorem tw_106 : Cond.code ⟨"PointAnswers", "<init>", "()V"⟩ prog_1_method_1_code 2 none ∈ wT := tw 106 (by decide +kernel) rfl
theorem tw_107 : Cond.methodLink "PointAnswers" 3 ⟨"java/lang/Object", "<init>", "()V"⟩ ∈ wT := tw 107 (by decide +kernel) rfl
theorem tw_108 : Cond.instanceMethod ⟨"java/lang/Object", "<init>", "()V"⟩ ∈ wT := tw 108 (by decide +kernel) rfl
theorem tw_109 : Cond.code ⟨"java/lang/Object", "<init>", "()V"⟩ object_method_1_code 1 none ∈ wT := tw 109 (by decide +kernel) rfl
theorem tw_110 : Cond.classLink "PointAnswers" 9 "PointAnswers$Bundle" ∈ wT := tw 110 (by decide +kernel) rfl
theorem tw_111 : Cond.instantiable "PointAnswers$Bundle" 6 ∈ wT := tw 111 (by decide +kernel) rfl
theorem tw_113 : Cond.instanceMethod ⟨"PointAnswers$Bundle", "<init>", "()V"⟩ ∈ wT := tw 113 (by decide +kernel) rfl
theorem tw_114 : Cond.code ⟨"PointAnswers$Bundle", "<init>", "()V"⟩ prog_2_method_1_code 2 none ∈ wT := tw 114 (by decide +kernel) rfl
theorem tw_115 : Cond.methodLink "PointAnswers$Bundle" 3 ⟨"java/lang/Object", "<init>", "()V"⟩ ∈ wT := tw 115 (by decide +kernel) rfl
theorem tw_116 : Cond.classLink "PointAnswers$Bundle" 9 "PointAnswers$Point" ∈ wT := tw 116 (by decide +kernel) rfl
theorem tw_118 : Cond.instantiable "PointAnswers$Point" 7 ∈ wT := tw 118 (by decide +kernel) rfl
theorem tw_120 : Cond.instanceMethod ⟨"PointAnswers$Point", "<init>", "()V"⟩ ∈ wT := tw 120 (by decide +kernel) rfl
theorem tw_121 : Cond.code ⟨"PointAnswers$Point", "<init>", "()V"⟩ prog_6_method_1_code 1 none ∈ wT := tw 121 (by decide +kernel) rfl
theorem tw_122 : Cond.methodLink "PointAnswers$Point" 1 ⟨"java/lang/Object", "<init>", "()V"⟩ ∈ wT := tw 122 (by decide +kernel) rfl
theorem tw_123 : Cond.fieldLink "PointAnswers$Point" 7 "PointAnswers$Point" "side" "I" ∈ wT := tw 123 (by decide +kernel) rfl
theorem tw_126 : Cond.fieldLink "PointAnswers$Point" 13 "PointAnswers$Point" "pages" "I" ∈ wT := tw 126 (by decide +kernel) rfl
theorem tw_129 : Cond.fieldLink "PointAnswers$Point" 16 "PointAnswers$Point" "cases" "I" ∈ wT := tw 129 (by decide +kernel) rfl
theorem tw_132 : Cond.fieldLink "PointAnswers$Point" 19 "PointAnswers$Point" "target" "I" ∈ wT := tw 132 (by decide +kernel) rfl
theorem tw_136 : Cond.fieldLink "PointAnswers$Point" 22 "PointAnswers$Point" "filed" "I" ∈ wT := tw 136 (by decide +kernel) rfl
theorem tw_139 : Cond.fieldLink "PointAnswers$Point" 25 "PointAnswers$Point" "lastsFrom" "I" ∈ wT := tw 139 (by decide +kernel) rfl
theorem tw_141 : Cond.fieldLink "PointAnswers$Point" 28 "PointAnswers$Point" "withdrawn" "Z" ∈ wT := tw 141 (by decide +kernel) rfl
theorem tw_158 : Cond.fieldLink "PointAnswers$Bundle" 11 "PointAnswers$Bundle" "rows" "[LPointAnswers$Point;" ∈ wT := tw 158 (by decide +kernel) rfl
theorem tw_159 : Cond.fieldLink "PointAnswers$Bundle" 25 "PointAnswers$Bundle" "size" "I" ∈ wT := tw 159 (by decide +kernel) rfl
theorem tw_161 : Cond.fieldLink "PointAnswers$Bundle" 28 "PointAnswers$Bundle" "day" "I" ∈ wT := tw 161 (by decide +kernel) rfl
theorem tw_163 : Cond.fieldLink "PointAnswers$Bundle" 31 "PointAnswers$Bundle" "overruled" "I" ∈ wT := tw 163 (by decide +kernel) rfl
theorem tw_165 : Cond.fieldLink "PointAnswers$Bundle" 17 "PointAnswers$Bundle" "lapse" "I" ∈ wT := tw 165 (by decide +kernel) rfl
theorem tw_167 : Cond.fieldLink "PointAnswers$Bundle" 21 "PointAnswers$Bundle" "allowedPages" "I" ∈ wT := tw 167 (by decide +kernel) rfl
theorem tw_182 : Cond.classLink "PointAnswers" 16 "PointAnswers$Costs" ∈ wT := tw 182 (by decide +kernel) rfl
theorem tw_183 : Cond.instantiable "PointAnswers$Costs" 2 ∈ wT := tw 183 (by decide +kernel) rfl
theorem tw_185 : Cond.instanceMethod ⟨"PointAnswers$Costs", "<init>", "()V"⟩ ∈ wT := tw 185 (by decide +kernel) rfl
theorem tw_186 : Cond.code ⟨"PointAnswers$Costs", "<init>", "()V"⟩ prog_3_method_1_code 1 none ∈ wT := tw 186 (by decide +kernel) rfl
theorem tw_187 : Cond.methodLink "PointAnswers$Costs" 3 ⟨"java/lang/Object", "<init>", "()V"⟩ ∈ wT := tw 187 (by decide +kernel) rfl
theorem tw_188 : Cond.fieldLink "PointAnswers$Costs" 9 "PointAnswers$Costs" "fall" "[I" ∈ wT := tw 188 (by decide +kernel) rfl
theorem tw_189 : Cond.fieldLink "PointAnswers$Costs" 15 "PointAnswers$Costs" "stand" "[I" ∈ wT := tw 189 (by decide +kernel) rfl
theorem tw_195 : Cond.arrayClass .int ∈ wT := tw 195 (by decide +kernel) rfl
theorem tw_196 : Cond.classLink "PointAnswers" 23 "PointAnswers$Pad" ∈ wT := tw 196 (by decide +kernel) rfl
theorem tw_197 : Cond.instantiable "PointAnswers$Pad" 2 ∈ wT := tw 197 (by decide +kernel) rfl
theorem tw_199 : Cond.instanceMethod ⟨"PointAnswers$Pad", "<init>", "()V"⟩ ∈ wT := tw 199 (by decide +kernel) rfl
theorem tw_200 : Cond.code ⟨"PointAnswers$Pad", "<init>", "()V"⟩ prog_5_method_1_code 1 none ∈ wT := tw 200 (by decide +kernel) rfl
theorem tw_201 : Cond.methodLink "PointAnswers$Pad" 3 ⟨"java/lang/Object", "<init>", "()V"⟩ ∈ wT := tw 201 (by decide +kernel) rfl
theorem tw_202 : Cond.fieldLink "PointAnswers$Pad" 9 "PointAnswers$Pad" "signs" "[C" ∈ wT := tw 202 (by decide +kernel) rfl
theorem tw_203 : Cond.fieldLink "PointAnswers$Pad" 15 "PointAnswers$Pad" "length" "I" ∈ wT := tw 203 (by decide +kernel) rfl
theorem tw_211 : Cond.arrayClass .char ∈ wT := tw 211 (by decide +kernel) rfl
theorem tw_212 : Cond.classLink "PointAnswers" 30 "PointAnswers$Reader" ∈ wT := tw 212 (by decide +kernel) rfl
theorem tw_213 : Cond.instantiable "PointAnswers$Reader" 6 ∈ wT := tw 213 (by decide +kernel) rfl
theorem tw_215 : Cond.instanceMethod ⟨"PointAnswers$Reader", "<init>", "()V"⟩ ∈ wT := tw 215 (by decide +kernel) rfl
theorem tw_216 : Cond.code ⟨"PointAnswers$Reader", "<init>", "()V"⟩ prog_7_method_1_code 1 none ∈ wT := tw 216 (by decide +kernel) rfl
theorem tw_217 : Cond.methodLink "PointAnswers$Reader" 3 ⟨"java/lang/Object", "<init>", "()V"⟩ ∈ wT := tw 217 (by decide +kernel) rfl
theorem tw_218 : Cond.fieldLink "PointAnswers$Reader" 9 "PointAnswers$Reader" "at" "I" ∈ wT := tw 218 (by decide +kernel) rfl
theorem tw_219 : Cond.fieldLink "PointAnswers$Reader" 49 "PointAnswers$Reader" "digit" "I" ∈ wT := tw 219 (by decide +kernel) rfl
theorem tw_220 : Cond.fieldLink "PointAnswers$Reader" 35 "PointAnswers$Reader" "kind" "C" ∈ wT := tw 220 (by decide +kernel) rfl
theorem tw_222 : Cond.fieldLink "PointAnswers$Reader" 55 "PointAnswers$Reader" "number" "I" ∈ wT := tw 222 (by decide +kernel) rfl
theorem tw_224 : Cond.fieldLink "PointAnswers$Reader" 58 "PointAnswers$Reader" "pages" "I" ∈ wT := tw 224 (by decide +kernel) rfl
theorem tw_226 : Cond.fieldLink "PointAnswers$Reader" 64 "PointAnswers$Reader" "cases" "I" ∈ wT := tw 226 (by decide +kernel) rfl
theorem tw_241 : Cond.classLink "PointAnswers" 37 "PointAnswers$History" ∈ wT := tw 241 (by decide +kernel) rfl
theorem tw_242 : Cond.instantiable "PointAnswers$History" 2 ∈ wT := tw 242 (by decide +kernel) rfl
theorem tw_244 : Cond.instanceMethod ⟨"PointAnswers$History", "<init>", "()V"⟩ ∈ wT := tw 244 (by decide +kernel) rfl
theorem tw_245 : Cond.code ⟨"PointAnswers$History", "<init>", "()V"⟩ prog_4_method_1_code 2 none ∈ wT := tw 245 (by decide +kernel) rfl
theorem tw_246 : Cond.methodLink "PointAnswers$History" 3 ⟨"java/lang/Object", "<init>", "()V"⟩ ∈ wT := tw 246 (by decide +kernel) rfl
theorem tw_247 : Cond.classLink "PointAnswers$History" 9 "PointAnswers$Bundle" ∈ wT := tw 247 (by decide +kernel) rfl
theorem tw_250 : Cond.fieldLink "PointAnswers$History" 11 "PointAnswers$History" "rows" "[LPointAnswers$Bundle;" ∈ wT := tw 250 (by decide +kernel) rfl
theorem tw_251 : Cond.fieldLink "PointAnswers$History" 18 "PointAnswers$History" "kept" "I" ∈ wT := tw 251 (by decide +kernel) rfl
theorem tw_258 : Cond.fieldLink "PointAnswers" 12 "PointAnswers" "now" "LPointAnswers$Bundle;" ∈ wT := tw 258 (by decide +kernel) rfl
theorem tw_259 : Cond.fieldLink "PointAnswers" 19 "PointAnswers" "costs" "LPointAnswers$Costs;" ∈ wT := tw 259 (by decide +kernel) rfl
theorem tw_260 : Cond.fieldLink "PointAnswers" 26 "PointAnswers" "pad" "LPointAnswers$Pad;" ∈ wT := tw 260 (by decide +kernel) rfl
theorem tw_261 : Cond.fieldLink "PointAnswers" 33 "PointAnswers" "reader" "LPointAnswers$Reader;" ∈ wT := tw 261 (by decide +kernel) rfl
theorem tw_262 : Cond.fieldLink "PointAnswers" 40 "PointAnswers" "history" "LPointAnswers$History;" ∈ wT := tw 262 (by decide +kernel) rfl
theorem tw_263 : Cond.fieldLink "PointAnswers" 44 "PointAnswers" "slots" "[LPointAnswers$Bundle;" ∈ wT := tw 263 (by decide +kernel) rfl
theorem tw_264 : Cond.fieldLink "PointAnswers" 245 "PointAnswers" "savedSlots" "I" ∈ wT := tw 264 (by decide +kernel) rfl
theorem tw_280 : Cond.methodLink "PointAnswersLaw" 13 ⟨"PointAnswers", "set", "(II)I"⟩ ∈ wT := tw 280 (by decide +kernel) rfl
theorem tw_281 : Cond.instanceMethod ⟨"PointAnswers", "set", "(II)I"⟩ ∈ wT := tw 281 (by decide +kernel) rfl
theorem tw_282 : Cond.selects "PointAnswers" ⟨"PointAnswers", "set", "(II)I"⟩ ⟨"PointAnswers", "set", "(II)I"⟩ ∈ wT := tw 282 (by decide +kernel) rfl
theorem tw_283 : Cond.code ⟨"PointAnswers", "set", "(II)I"⟩ prog_1_method_2_code 3 (some .int) ∈ wT := tw 283 (by decide +kernel) rfl
theorem tw_286 : Cond.instanceMethod ⟨"PointAnswers$History", "prepare", "(LPointAnswers$Bundle;)V"⟩ ∈ wT := tw 286 (by decide +kernel) rfl
theorem tw_287 : Cond.code ⟨"PointAnswers$History", "prepare", "(LPointAnswers$Bundle;)V"⟩ prog_4_method_3_code 3 none ∈ wT := tw 287 (by decide +kernel) rfl
theorem tw_288 : Cond.methodLink "PointAnswers$History" 22 ⟨"PointAnswers$History", "rowAt", "(I)LPointAnswers$Bundle;"⟩ ∈ wT := tw 288 (by decide +kernel) rfl
theorem tw_290 : Cond.instanceMethod ⟨"PointAnswers$History", "rowAt", "(I)LPointAnswers$Bundle;"⟩ ∈ wT := tw 290 (by decide +kernel) rfl
theorem tw_291 : Cond.code ⟨"PointAnswers$History", "rowAt", "(I)LPointAnswers$Bundle;"⟩ prog_4_method_2_code 2 (some (.object "PointAnswers$Bundle")) ∈ wT := tw 291 (by decide +kernel) rfl
theorem tw_294 : Cond.instanceMethod ⟨"PointAnswers$Bundle", "become", "(LPointAnswers$Bundle;)V"⟩ ∈ wT := tw 294 (by decide +kernel) rfl
theorem tw_295 : Cond.code ⟨"PointAnswers$Bundle", "become", "(LPointAnswers$Bundle;)V"⟩ prog_2_method_2_code 5 none ∈ wT := tw 295 (by decide +kernel) rfl
theorem tw_296 : Cond.methodLink "PointAnswers$Bundle" 34 ⟨"PointAnswers$Bundle", "find", "(I)LPointAnswers$Point;"⟩ ∈ wT := tw 296 (by decide +kernel) rfl
theorem tw_298 : Cond.instanceMethod ⟨"PointAnswers$Bundle", "find", "(I)LPointAnswers$Point;"⟩ ∈ wT := tw 298 (by decide +kernel) rfl
theorem tw_299 : Cond.code ⟨"PointAnswers$Bundle", "find", "(I)LPointAnswers$Point;"⟩ prog_2_method_3_code 2 (some (.object "PointAnswers$Point")) ∈ wT := tw 299 (by decide +kernel) rfl
theorem tw_302 : Cond.instanceMethod ⟨"PointAnswers$Point", "become", "(LPointAnswers$Point;)V"⟩ ∈ wT := tw 302 (by decide +kernel) rfl
theorem tw_303 : Cond.code ⟨"PointAnswers$Point", "become", "(LPointAnswers$Point;)V"⟩ prog_6_method_2_code 2 none ∈ wT := tw 303 (by decide +kernel) rfl
theorem tw_306 : Cond.instanceMethod ⟨"PointAnswers$Bundle", "adjust", "(II)I"⟩ ∈ wT := tw 306 (by decide +kernel) rfl
theorem tw_307 : Cond.code ⟨"PointAnswers$Bundle", "adjust", "(II)I"⟩ prog_2_method_5_code 4 (some .int) ∈ wT := tw 307 (by decide +kernel) rfl
theorem tw_310 : Cond.instanceMethod ⟨"PointAnswers$History", "settle", "(I)I"⟩ ∈ wT := tw 310 (by decide +kernel) rfl
theorem tw_311 : Cond.code ⟨"PointAnswers$History", "settle", "(I)I"⟩ prog_4_method_4_code 2 (some .int) ∈ wT := tw 311 (by decide +kernel) rfl
theorem tw_312 : Cond.methodLink "PointAnswers$History" 30 ⟨"PointAnswers$History", "dropOldest", "()V"⟩ ∈ wT := tw 312 (by decide +kernel) rfl
theorem tw_314 : Cond.instanceMethod ⟨"PointAnswers$History", "dropOldest", "()V"⟩ ∈ wT := tw 314 (by decide +kernel) rfl
theorem tw_315 : Cond.code ⟨"PointAnswers$History", "dropOldest", "()V"⟩ prog_4_method_5_code 3 none ∈ wT := tw 315 (by decide +kernel) rfl
theorem tw_316 : Cond.methodLink "PointAnswersLaw" 18 ⟨"PointAnswers", "claim", "(III)I"⟩ ∈ wT := tw 316 (by decide +kernel) rfl
theorem tw_317 : Cond.instanceMethod ⟨"PointAnswers", "claim", "(III)I"⟩ ∈ wT := tw 317 (by decide +kernel) rfl
theorem tw_318 : Cond.selects "PointAnswers" ⟨"PointAnswers", "claim", "(III)I"⟩ ⟨"PointAnswers", "claim", "(III)I"⟩ ∈ wT := tw 318 (by decide +kernel) rfl
theorem tw_319 : Cond.code ⟨"PointAnswers", "claim", "(III)I"⟩ prog_1_method_3_code 4 (some .int) ∈ wT := tw 319 (by decide +kernel) rfl
theorem tw_322 : Cond.instanceMethod ⟨"PointAnswers$Bundle", "fileClaim", "(III)I"⟩ ∈ wT := tw 322 (by decide +kernel) rfl
theorem tw_323 : Cond.code ⟨"PointAnswers$Bundle", "fileClaim", "(III)I"⟩ prog_2_method_6_code 4 (some .int) ∈ wT := tw 323 (by decide +kernel) rfl
theorem tw_324 : Cond.methodLink "PointAnswers$Bundle" 42 ⟨"PointAnswers$Bundle", "canBeFiled", "(II)Z"⟩ ∈ wT := tw 324 (by decide +kernel) rfl
theorem tw_325 : Cond.static ⟨"PointAnswers$Bundle", "canBeFiled", "(II)Z"⟩ ∈ wT := tw 325 (by decide +kernel) rfl
theorem tw_326 : Cond.code ⟨"PointAnswers$Bundle", "canBeFiled", "(II)Z"⟩ prog_2_method_8_code 2 (some .boolean) ∈ wT := tw 326 (by decide +kernel) rfl
theorem tw_327 : Cond.methodLink "PointAnswers$Bundle" 46 ⟨"PointAnswers$Bundle", "file", "(IIII)I"⟩ ∈ wT := tw 327 (by decide +kernel) rfl
theorem tw_329 : Cond.instanceMethod ⟨"PointAnswers$Bundle", "file", "(IIII)I"⟩ ∈ wT := tw 329 (by decide +kernel) rfl
theorem tw_330 : Cond.code ⟨"PointAnswers$Bundle", "file", "(IIII)I"⟩ prog_2_method_9_code 6 (some .int) ∈ wT := tw 330 (by decide +kernel) rfl
theorem tw_331 : Cond.methodLink "PointAnswers$Bundle" 50 ⟨"PointAnswers$Bundle", "freeRow", "()LPointAnswers$Point;"⟩ ∈ wT := tw 331 (by decide +kernel) rfl
theorem tw_333 : Cond.instanceMethod ⟨"PointAnswers$Bundle", "freeRow", "()LPointAnswers$Point;"⟩ ∈ wT := tw 333 (by decide +kernel) rfl
theorem tw_334 : Cond.code ⟨"PointAnswers$Bundle", "freeRow", "()LPointAnswers$Point;"⟩ prog_2_method_4_code 1 (some (.object "PointAnswers$Point")) ∈ wT := tw 334 (by decide +kernel) rfl
theorem tw_335 : Cond.methodLink "PointAnswersLaw" 23 ⟨"PointAnswers", "answer", "(III)I"⟩ ∈ wT := tw 335 (by decide +kernel) rfl
theorem tw_336 : Cond.instanceMethod ⟨"PointAnswers", "answer", "(III)I"⟩ ∈ wT := tw 336 (by decide +kernel) rfl
theorem tw_337 : Cond.selects "PointAnswers" ⟨"PointAnswers", "answer", "(III)I"⟩ ⟨"PointAnswers", "answer", "(III)I"⟩ ∈ wT := tw 337 (by decide +kernel) rfl
theorem tw_338 : Cond.code ⟨"PointAnswers", "answer", "(III)I"⟩ prog_1_method_4_code 4 (some .int) ∈ wT := tw 338 (by decide +kernel) rfl
theorem tw_341 : Cond.instanceMethod ⟨"PointAnswers$Bundle", "fileAnswer", "(III)I"⟩ ∈ wT := tw 341 (by decide +kernel) rfl
theorem tw_342 : Cond.code ⟨"PointAnswers$Bundle", "fileAnswer", "(III)I"⟩ prog_2_method_7_code 5 (some .int) ∈ wT := tw 342 (by decide +kernel) rfl
theorem tw_343 : Cond.methodLink "PointAnswersLaw" 27 ⟨"PointAnswers", "withdraw", "(I)I"⟩ ∈ wT := tw 343 (by decide +kernel) rfl
theorem tw_344 : Cond.instanceMethod ⟨"PointAnswers", "withdraw", "(I)I"⟩ ∈ wT := tw 344 (by decide +kernel) rfl
theorem tw_345 : Cond.selects "PointAnswers" ⟨"PointAnswers", "withdraw", "(I)I"⟩ ⟨"PointAnswers", "withdraw", "(I)I"⟩ ∈ wT := tw 345 (by decide +kernel) rfl
theorem tw_346 : Cond.code ⟨"PointAnswers", "withdraw", "(I)I"⟩ prog_1_method_5_code 2 (some .int) ∈ wT := tw 346 (by decide +kernel) rfl
theorem tw_349 : Cond.instanceMethod ⟨"PointAnswers$Bundle", "takeBack", "(I)I"⟩ ∈ wT := tw 349 (by decide +kernel) rfl
theorem tw_350 : Cond.code ⟨"PointAnswers$Bundle", "takeBack", "(I)I"⟩ prog_2_method_10_code 3 (some .int) ∈ wT := tw 350 (by decide +kernel) rfl
theorem tw_351 : Cond.methodLink "PointAnswers$Bundle" 76 ⟨"PointAnswers$Bundle", "standing", "()I"⟩ ∈ wT := tw 351 (by decide +kernel) rfl
theorem tw_353 : Cond.instanceMethod ⟨"PointAnswers$Bundle", "standing", "()I"⟩ ∈ wT := tw 353 (by decide +kernel) rfl
theorem tw_354 : Cond.code ⟨"PointAnswers$Bundle", "standing", "()I"⟩ prog_2_method_25_code 1 (some .int) ∈ wT := tw 354 (by decide +kernel) rfl
theorem tw_355 : Cond.methodLink "PointAnswers$Bundle" 109 ⟨"PointAnswers$Bundle", "out", "()I"⟩ ∈ wT := tw 355 (by decide +kernel) rfl
theorem tw_357 : Cond.instanceMethod ⟨"PointAnswers$Bundle", "out", "()I"⟩ ∈ wT := tw 357 (by decide +kernel) rfl
theorem tw_358 : Cond.code ⟨"PointAnswers$Bundle", "out", "()I"⟩ prog_2_method_24_code 1 (some .int) ∈ wT := tw 358 (by decide +kernel) rfl
theorem tw_359 : Cond.methodLink "PointAnswers$Bundle" 98 ⟨"PointAnswers$Bundle", "withdrawn", "()I"⟩ ∈ wT := tw 359 (by decide +kernel) rfl
theorem tw_361 : Cond.instanceMethod ⟨"PointAnswers$Bundle", "withdrawn", "()I"⟩ ∈ wT := tw 361 (by decide +kernel) rfl
theorem tw_362 : Cond.code ⟨"PointAnswers$Bundle", "withdrawn", "()I"⟩ prog_2_method_20_code 4 (some .int) ∈ wT := tw 362 (by decide +kernel) rfl
theorem tw_363 : Cond.methodLink "PointAnswers$Bundle" 100 ⟨"PointAnswers$Bundle", "struck", "()I"⟩ ∈ wT := tw 363 (by decide +kernel) rfl
theorem tw_365 : Cond.instanceMethod ⟨"PointAnswers$Bundle", "struck", "()I"⟩ ∈ wT := tw 365 (by decide +kernel) rfl
theorem tw_366 : Cond.code ⟨"PointAnswers$Bundle", "struck", "()I"⟩ prog_2_method_21_code 6 (some .int) ∈ wT := tw 366 (by decide +kernel) rfl
theorem tw_367 : Cond.methodLink "PointAnswers$Bundle" 103 ⟨"PointAnswers$Bundle", "lapsedOn", "(I)I"⟩ ∈ wT := tw 367 (by decide +kernel) rfl
theorem tw_369 : Cond.instanceMethod ⟨"PointAnswers$Bundle", "lapsedOn", "(I)I"⟩ ∈ wT := tw 369 (by decide +kernel) rfl
theorem tw_370 : Cond.code ⟨"PointAnswers$Bundle", "lapsedOn", "(I)I"⟩ prog_2_method_22_code 5 (some .int) ∈ wT := tw 370 (by decide +kernel) rfl
theorem tw_371 : Cond.methodLink "PointAnswers$Bundle" 106 ⟨"PointAnswers$Bundle", "baseless", "()I"⟩ ∈ wT := tw 371 (by decide +kernel) rfl
theorem tw_373 : Cond.instanceMethod ⟨"PointAnswers$Bundle", "baseless", "()I"⟩ ∈ wT := tw 373 (by decide +kernel) rfl
theorem tw_374 : Cond.code ⟨"PointAnswers$Bundle", "baseless", "()I"⟩ prog_2_method_23_code 4 (some .int) ∈ wT := tw 374 (by decide +kernel) rfl
theorem tw_375 : Cond.methodLink "PointAnswers$Bundle" 112 ⟨"PointAnswers$Bundle", "standingIf", "(II)I"⟩ ∈ wT := tw 375 (by decide +kernel) rfl
theorem tw_377 : Cond.instanceMethod ⟨"PointAnswers$Bundle", "standingIf", "(II)I"⟩ ∈ wT := tw 377 (by decide +kernel) rfl
theorem tw_378 : Cond.code ⟨"PointAnswers$Bundle", "standingIf", "(II)I"⟩ prog_2_method_27_code 6 (some .int) ∈ wT := tw 378 (by decide +kernel) rfl
theorem tw_380 : Cond.static ⟨"PointAnswers", "has", "(II)Z"⟩ ∈ wT := tw 380 (by decide +kernel) rfl
theorem tw_381 : Cond.code ⟨"PointAnswers", "has", "(II)Z"⟩ prog_1_method_27_code 2 (some .boolean) ∈ wT := tw 381 (by decide +kernel) rfl
theorem tw_382 : Cond.methodLink "PointAnswers$Bundle" 95 ⟨"PointAnswers$Bundle", "targetOf", "(I)I"⟩ ∈ wT := tw 382 (by decide +kernel) rfl
theorem tw_384 : Cond.instanceMethod ⟨"PointAnswers$Bundle", "targetOf", "(I)I"⟩ ∈ wT := tw 384 (by decide +kernel) rfl
theorem tw_385 : Cond.code ⟨"PointAnswers$Bundle", "targetOf", "(I)I"⟩ prog_2_method_18_code 3 (some .int) ∈ wT := tw 385 (by decide +kernel) rfl
theorem tw_386 : Cond.methodLink "PointAnswers$Bundle" 80 ⟨"java/lang/Integer", "bitCount", "(I)I"⟩ ∈ wT := tw 386 (by decide +kernel) rfl
theorem tw_387 : Cond.static ⟨"java/lang/Integer", "bitCount", "(I)I"⟩ ∈ wT := tw 387 (by decide +kernel) rfl
theorem tw_388 : Cond.code ⟨"java/lang/Integer", "bitCount", "(I)I"⟩ prog_10_method_49_code 1 (some .int) ∈ wT := tw 388 (by decide +kernel) rfl
theorem tw_389 : Cond.constant "java/lang/Integer" 265 (1431655765) ∈ wT := tw 389 (by decide +kernel) rfl
theorem tw_390 : Cond.constant "java/lang/Integer" 266 (858993459) ∈ wT := tw 390 (by decide +kernel) rfl
theorem tw_391 : Cond.constant "java/lang/Integer" 267 (252645135) ∈ wT := tw 391 (by decide +kernel) rfl
theorem tw_392 : Cond.methodLink "PointAnswersLaw" 32 ⟨"PointAnswers", "renew", "(I)I"⟩ ∈ wT := tw 392 (by decide +kernel) rfl
theorem tw_393 : Cond.instanceMethod ⟨"PointAnswers", "renew", "(I)I"⟩ ∈ wT := tw 393 (by decide +kernel) rfl
theorem tw_394 : Cond.selects "PointAnswers" ⟨"PointAnswers", "renew", "(I)I"⟩ ⟨"PointAnswers", "renew", "(I)I"⟩ ∈ wT := tw 394 (by decide +kernel) rfl
theorem tw_395 : Cond.code ⟨"PointAnswers", "renew", "(I)I"⟩ prog_1_method_6_code 2 (some .int) ∈ wT := tw 395 (by decide +kernel) rfl
theorem tw_398 : Cond.instanceMethod ⟨"PointAnswers$Bundle", "prolong", "(I)I"⟩ ∈ wT := tw 398 (by decide +kernel) rfl
theorem tw_399 : Cond.code ⟨"PointAnswers$Bundle", "prolong", "(I)I"⟩ prog_2_method_11_code 4 (some .int) ∈ wT := tw 399 (by decide +kernel) rfl
theorem tw_400 : Cond.methodLink "PointAnswersLaw" 36 ⟨"PointAnswers", "overrule", "(I)I"⟩ ∈ wT := tw 400 (by decide +kernel) rfl
theorem tw_401 : Cond.instanceMethod ⟨"PointAnswers", "overrule", "(I)I"⟩ ∈ wT := tw 401 (by decide +kernel) rfl
theorem tw_402 : Cond.selects "PointAnswers" ⟨"PointAnswers", "overrule", "(I)I"⟩ ⟨"PointAnswers", "overrule", "(I)I"⟩ ∈ wT := tw 402 (by decide +kernel) rfl
theorem tw_403 : Cond.code ⟨"PointAnswers", "overrule", "(I)I"⟩ prog_1_method_7_code 2 (some .int) ∈ wT := tw 403 (by decide +kernel) rfl
theorem tw_406 : Cond.instanceMethod ⟨"PointAnswers$Bundle", "turnCase", "(I)I"⟩ ∈ wT := tw 406 (by decide +kernel) rfl
theorem tw_407 : Cond.code ⟨"PointAnswers$Bundle", "turnCase", "(I)I"⟩ prog_2_method_12_code 2 (some .int) ∈ wT := tw 407 (by decide +kernel) rfl
theorem tw_408 : Cond.methodLink "PointAnswersLaw" 40 ⟨"PointAnswers", "pass", "(I)I"⟩ ∈ wT := tw 408 (by decide +kernel) rfl
theorem tw_409 : Cond.instanceMethod ⟨"PointAnswers", "pass", "(I)I"⟩ ∈ wT := tw 409 (by decide +kernel) rfl
theorem tw_410 : Cond.selects "PointAnswers" ⟨"PointAnswers", "pass", "(I)I"⟩ ⟨"PointAnswers", "pass", "(I)I"⟩ ∈ wT := tw 410 (by decide +kernel) rfl
theorem tw_411 : Cond.code ⟨"PointAnswers", "pass", "(I)I"⟩ prog_1_method_8_code 2 (some .int) ∈ wT := tw 411 (by decide +kernel) rfl
theorem tw_414 : Cond.instanceMethod ⟨"PointAnswers$Bundle", "moveOn", "(I)I"⟩ ∈ wT := tw 414 (by decide +kernel) rfl
theorem tw_415 : Cond.code ⟨"PointAnswers$Bundle", "moveOn", "(I)I"⟩ prog_2_method_13_code 2 (some .int) ∈ wT := tw 415 (by decide +kernel) rfl
theorem tw_416 : Cond.methodLink "PointAnswersLaw" 44 ⟨"PointAnswers", "of", "(II)I"⟩ ∈ wT := tw 416 (by decide +kernel) rfl
theorem tw_417 : Cond.instanceMethod ⟨"PointAnswers", "of", "(II)I"⟩ ∈ wT := tw 417 (by decide +kernel) rfl
theorem tw_418 : Cond.selects "PointAnswers" ⟨"PointAnswers", "of", "(II)I"⟩ ⟨"PointAnswers", "of", "(II)I"⟩ ∈ wT := tw 418 (by decide +kernel) rfl
theorem tw_419 : Cond.code ⟨"PointAnswers", "of", "(II)I"⟩ prog_1_method_9_code 4 (some .int) ∈ wT := tw 419 (by decide +kernel) rfl
theorem tw_422 : Cond.methodLink "PointAnswers" 105 ⟨"PointAnswers", "has", "(II)Z"⟩ ∈ wT := tw 422 (by decide +kernel) rfl
theorem tw_425 : Cond.instanceMethod ⟨"PointAnswers$Bundle", "reasonAgainst", "(I)I"⟩ ∈ wT := tw 425 (by decide +kernel) rfl
theorem tw_426 : Cond.code ⟨"PointAnswers$Bundle", "reasonAgainst", "(I)I"⟩ prog_2_method_28_code 2 (some .int) ∈ wT := tw 426 (by decide +kernel) rfl
theorem tw_429 : Cond.instanceMethod ⟨"PointAnswers$Bundle", "answersTo", "(I)I"⟩ ∈ wT := tw 429 (by decide +kernel) rfl
theorem tw_430 : Cond.code ⟨"PointAnswers$Bundle", "answersTo", "(I)I"⟩ prog_2_method_16_code 5 (some .int) ∈ wT := tw 430 (by decide +kernel) rfl
theorem tw_431 : Cond.methodLink "PointAnswers" 115 ⟨"PointAnswers", "lowestOf", "(I)I"⟩ ∈ wT := tw 431 (by decide +kernel) rfl
theorem tw_432 : Cond.static ⟨"PointAnswers", "lowestOf", "(I)I"⟩ ∈ wT := tw 432 (by decide +kernel) rfl
theorem tw_433 : Cond.code ⟨"PointAnswers", "lowestOf", "(I)I"⟩ prog_1_method_28_code 2 (some .int) ∈ wT := tw 433 (by decide +kernel) rfl
theorem tw_436 : Cond.instanceMethod ⟨"PointAnswers$Bundle", "depthOf", "(I)I"⟩ ∈ wT := tw 436 (by decide +kernel) rfl
theorem tw_437 : Cond.code ⟨"PointAnswers$Bundle", "depthOf", "(I)I"⟩ prog_2_method_29_code 4 (some .int) ∈ wT := tw 437 (by decide +kernel) rfl
theorem tw_440 : Cond.instanceMethod ⟨"PointAnswers$Bundle", "daysLeft", "(LPointAnswers$Point;)I"⟩ ∈ wT := tw 440 (by decide +kernel) rfl
theorem tw_441 : Cond.code ⟨"PointAnswers$Bundle", "daysLeft", "(LPointAnswers$Point;)I"⟩ prog_2_method_30_code 3 (some .int) ∈ wT := tw 441 (by decide +kernel) rfl
theorem tw_442 : Cond.methodLink "PointAnswersLaw" 48 ⟨"PointAnswers", "count", "(I)I"⟩ ∈ wT := tw 442 (by decide +kernel) rfl
theorem tw_443 : Cond.instanceMethod ⟨"PointAnswers", "count", "(I)I"⟩ ∈ wT := tw 443 (by decide +kernel) rfl
theorem tw_444 : Cond.selects "PointAnswers" ⟨"PointAnswers", "count", "(I)I"⟩ ⟨"PointAnswers", "count", "(I)I"⟩ ∈ wT := tw 444 (by decide +kernel) rfl
theorem tw_445 : Cond.code ⟨"PointAnswers", "count", "(I)I"⟩ prog_1_method_10_code 2 (some .int) ∈ wT := tw 445 (by decide +kernel) rfl
theorem tw_448 : Cond.instanceMethod ⟨"PointAnswers$Bundle", "claims", "()I"⟩ ∈ wT := tw 448 (by decide +kernel) rfl
theorem tw_449 : Cond.code ⟨"PointAnswers$Bundle", "claims", "()I"⟩ prog_2_method_15_code 1 (some .int) ∈ wT := tw 449 (by decide +kernel) rfl
theorem tw_450 : Cond.methodLink "PointAnswers$Bundle" 89 ⟨"PointAnswers$Bundle", "answersTo", "(I)I"⟩ ∈ wT := tw 450 (by decide +kernel) rfl
theorem tw_451 : Cond.methodLink "PointAnswers" 134 ⟨"java/lang/Integer", "bitCount", "(I)I"⟩ ∈ wT := tw 451 (by decide +kernel) rfl
theorem tw_455 : Cond.instanceMethod ⟨"PointAnswers$Bundle", "answered", "()I"⟩ ∈ wT := tw 455 (by decide +kernel) rfl
theorem tw_456 : Cond.code ⟨"PointAnswers$Bundle", "answered", "()I"⟩ prog_2_method_26_code 1 (some .int) ∈ wT := tw 456 (by decide +kernel) rfl
theorem tw_457 : Cond.methodLink "PointAnswers$Bundle" 92 ⟨"PointAnswers$Bundle", "all", "()I"⟩ ∈ wT := tw 457 (by decide +kernel) rfl
theorem tw_459 : Cond.instanceMethod ⟨"PointAnswers$Bundle", "all", "()I"⟩ ∈ wT := tw 459 (by decide +kernel) rfl
theorem tw_460 : Cond.code ⟨"PointAnswers$Bundle", "all", "()I"⟩ prog_2_method_14_code 1 (some .int) ∈ wT := tw 460 (by decide +kernel) rfl
theorem tw_465 : Cond.instanceMethod ⟨"PointAnswers$Bundle", "pagesOf", "(II)I"⟩ ∈ wT := tw 465 (by decide +kernel) rfl
theorem tw_466 : Cond.code ⟨"PointAnswers$Bundle", "pagesOf", "(II)I"⟩ prog_2_method_31_code 6 (some .int) ∈ wT := tw 466 (by decide +kernel) rfl
theorem tw_467 : Cond.methodLink "PointAnswersLaw" 52 ⟨"PointAnswers", "points", "(I)I"⟩ ∈ wT := tw 467 (by decide +kernel) rfl
theorem tw_468 : Cond.instanceMethod ⟨"PointAnswers", "points", "(I)I"⟩ ∈ wT := tw 468 (by decide +kernel) rfl
theorem tw_469 : Cond.selects "PointAnswers" ⟨"PointAnswers", "points", "(I)I"⟩ ⟨"PointAnswers", "points", "(I)I"⟩ ∈ wT := tw 469 (by decide +kernel) rfl
theorem tw_470 : Cond.code ⟨"PointAnswers", "points", "(I)I"⟩ prog_1_method_11_code 2 (some .int) ∈ wT := tw 470 (by decide +kernel) rfl
theorem tw_473 : Cond.instanceMethod ⟨"PointAnswers$Bundle", "ofSide", "(I)I"⟩ ∈ wT := tw 473 (by decide +kernel) rfl
theorem tw_474 : Cond.code ⟨"PointAnswers$Bundle", "ofSide", "(I)I"⟩ prog_2_method_19_code 5 (some .int) ∈ wT := tw 474 (by decide +kernel) rfl
theorem tw_475 : Cond.methodLink "PointAnswersLaw" 56 ⟨"PointAnswers", "share", "(I)I"⟩ ∈ wT := tw 475 (by decide +kernel) rfl
theorem tw_476 : Cond.instanceMethod ⟨"PointAnswers", "share", "(I)I"⟩ ∈ wT := tw 476 (by decide +kernel) rfl
theorem tw_477 : Cond.selects "PointAnswers" ⟨"PointAnswers", "share", "(I)I"⟩ ⟨"PointAnswers", "share", "(I)I"⟩ ∈ wT := tw 477 (by decide +kernel) rfl
theorem tw_478 : Cond.code ⟨"PointAnswers", "share", "(I)I"⟩ prog_1_method_12_code 3 (some .int) ∈ wT := tw 478 (by decide +kernel) rfl
theorem tw_479 : Cond.methodLink "PointAnswers" 172 ⟨"PointAnswers", "floatBits", "(II)I"⟩ ∈ wT := tw 479 (by decide +kernel) rfl
theorem tw_480 : Cond.static ⟨"PointAnswers", "floatBits", "(II)I"⟩ ∈ wT := tw 480 (by decide +kernel) rfl
theorem tw_481 : Cond.code ⟨"PointAnswers", "floatBits", "(II)I"⟩ prog_1_method_29_code 9 (some .int) ∈ wT := tw 481 (by decide +kernel) rfl
theorem tw_482 : Cond.constantLong "PointAnswers" 257 (2) ∈ wT := tw 482 (by decide +kernel) rfl
theorem tw_483 : Cond.constantLong "PointAnswers" 259 (8388608) ∈ wT := tw 483 (by decide +kernel) rfl
theorem tw_484 : Cond.methodLink "PointAnswersLaw" 60 ⟨"PointAnswers", "toFall", "(I)I"⟩ ∈ wT := tw 484 (by decide +kernel) rfl
theorem tw_485 : Cond.instanceMethod ⟨"PointAnswers", "toFall", "(I)I"⟩ ∈ wT := tw 485 (by decide +kernel) rfl
theorem tw_486 : Cond.selects "PointAnswers" ⟨"PointAnswers", "toFall", "(I)I"⟩ ⟨"PointAnswers", "toFall", "(I)I"⟩ ∈ wT := tw 486 (by decide +kernel) rfl
theorem tw_487 : Cond.code ⟨"PointAnswers", "toFall", "(I)I"⟩ prog_1_method_13_code 2 (some .int) ∈ wT := tw 487 (by decide +kernel) rfl
theorem tw_490 : Cond.instanceMethod ⟨"PointAnswers$Costs", "weigh", "(LPointAnswers$Bundle;)V"⟩ ∈ wT := tw 490 (by decide +kernel) rfl
theorem tw_491 : Cond.code ⟨"PointAnswers$Costs", "weigh", "(LPointAnswers$Bundle;)V"⟩ prog_3_method_2_code 7 none ∈ wT := tw 491 (by decide +kernel) rfl
theorem tw_495 : Cond.instanceMethod ⟨"PointAnswers$Bundle", "withoutAnswers", "()I"⟩ ∈ wT := tw 495 (by decide +kernel) rfl
theorem tw_496 : Cond.code ⟨"PointAnswers$Bundle", "withoutAnswers", "()I"⟩ prog_2_method_17_code 3 (some .int) ∈ wT := tw 496 (by decide +kernel) rfl
theorem tw_497 : Cond.methodLink "PointAnswers$Costs" 27 ⟨"java/lang/Math", "min", "(II)I"⟩ ∈ wT := tw 497 (by decide +kernel) rfl
theorem tw_498 : Cond.static ⟨"java/lang/Math", "min", "(II)I"⟩ ∈ wT := tw 498 (by decide +kernel) rfl
theorem tw_499 : Cond.code ⟨"java/lang/Math", "min", "(II)I"⟩ prog_11_method_69_code 2 (some .int) ∈ wT := tw 499 (by decide +kernel) rfl
theorem tw_502 : Cond.methodLink "PointAnswers$Costs" 47 ⟨"PointAnswers$Costs", "addToTarget", "(III)V"⟩ ∈ wT := tw 502 (by decide +kernel) rfl
theorem tw_504 : Cond.instanceMethod ⟨"PointAnswers$Costs", "addToTarget", "(III)V"⟩ ∈ wT := tw 504 (by decide +kernel) rfl
theorem tw_505 : Cond.code ⟨"PointAnswers$Costs", "addToTarget", "(III)V"⟩ prog_3_method_3_code 4 none ∈ wT := tw 505 (by decide +kernel) rfl
theorem tw_508 : Cond.instanceMethod ⟨"PointAnswers$Costs", "answersToFall", "(I)I"⟩ ∈ wT := tw 508 (by decide +kernel) rfl
theorem tw_509 : Cond.code ⟨"PointAnswers$Costs", "answersToFall", "(I)I"⟩ prog_3_method_4_code 2 (some .int) ∈ wT := tw 509 (by decide +kernel) rfl
theorem tw_510 : Cond.methodLink "PointAnswers$Costs" 51 ⟨"PointAnswers$Costs", "reachable", "(I)I"⟩ ∈ wT := tw 510 (by decide +kernel) rfl
theorem tw_511 : Cond.static ⟨"PointAnswers$Costs", "reachable", "(I)I"⟩ ∈ wT := tw 511 (by decide +kernel) rfl
theorem tw_512 : Cond.code ⟨"PointAnswers$Costs", "reachable", "(I)I"⟩ prog_3_method_6_code 1 (some .int) ∈ wT := tw 512 (by decide +kernel) rfl
theorem tw_513 : Cond.methodLink "PointAnswersLaw" 64 ⟨"PointAnswers", "toStand", "(I)I"⟩ ∈ wT := tw 513 (by decide +kernel) rfl
theorem tw_514 : Cond.instanceMethod ⟨"PointAnswers", "toStand", "(I)I"⟩ ∈ wT := tw 514 (by decide +kernel) rfl
theorem tw_515 : Cond.selects "PointAnswers" ⟨"PointAnswers", "toStand", "(I)I"⟩ ⟨"PointAnswers", "toStand", "(I)I"⟩ ∈ wT := tw 515 (by decide +kernel) rfl
theorem tw_516 : Cond.code ⟨"PointAnswers", "toStand", "(I)I"⟩ prog_1_method_14_code 2 (some .int) ∈ wT := tw 516 (by decide +kernel) rfl
theorem tw_519 : Cond.instanceMethod ⟨"PointAnswers$Costs", "answersToStand", "(I)I"⟩ ∈ wT := tw 519 (by decide +kernel) rfl
theorem tw_520 : Cond.code ⟨"PointAnswers$Costs", "answersToStand", "(I)I"⟩ prog_3_method_5_code 2 (some .int) ∈ wT := tw 520 (by decide +kernel) rfl
theorem tw_521 : Cond.methodLink "PointAnswersLaw" 68 ⟨"PointAnswers", "bestAnswer", "(I)I"⟩ ∈ wT := tw 521 (by decide +kernel) rfl
theorem tw_522 : Cond.instanceMethod ⟨"PointAnswers", "bestAnswer", "(I)I"⟩ ∈ wT := tw 522 (by decide +kernel) rfl
theorem tw_523 : Cond.selects "PointAnswers" ⟨"PointAnswers", "bestAnswer", "(I)I"⟩ ⟨"PointAnswers", "bestAnswer", "(I)I"⟩ ∈ wT := tw 523 (by decide +kernel) rfl
theorem tw_524 : Cond.code ⟨"PointAnswers", "bestAnswer", "(I)I"⟩ prog_1_method_15_code 9 (some .int) ∈ wT := tw 524 (by decide +kernel) rfl
theorem tw_527 : Cond.methodLink "PointAnswersLaw" 72 ⟨"PointAnswers", "changesIn", "()I"⟩ ∈ wT := tw 527 (by decide +kernel) rfl
theorem tw_528 : Cond.instanceMethod ⟨"PointAnswers", "changesIn", "()I"⟩ ∈ wT := tw 528 (by decide +kernel) rfl
theorem tw_529 : Cond.selects "PointAnswers" ⟨"PointAnswers", "changesIn", "()I"⟩ ⟨"PointAnswers", "changesIn", "()I"⟩ ∈ wT := tw 529 (by decide +kernel) rfl
theorem tw_530 : Cond.code ⟨"PointAnswers", "changesIn", "()I"⟩ prog_1_method_16_code 4 (some .int) ∈ wT := tw 530 (by decide +kernel) rfl
theorem tw_533 : Cond.methodLink "PointAnswersLaw" 77 ⟨"PointAnswers", "leastPages", "()I"⟩ ∈ wT := tw 533 (by decide +kernel) rfl
theorem tw_534 : Cond.instanceMethod ⟨"PointAnswers", "leastPages", "()I"⟩ ∈ wT := tw 534 (by decide +kernel) rfl
theorem tw_535 : Cond.selects "PointAnswers" ⟨"PointAnswers", "leastPages", "()I"⟩ ⟨"PointAnswers", "leastPages", "()I"⟩ ∈ wT := tw 535 (by decide +kernel) rfl
theorem tw_536 : Cond.code ⟨"PointAnswers", "leastPages", "()I"⟩ prog_1_method_17_code 3 (some .int) ∈ wT := tw 536 (by decide +kernel) rfl
theorem tw_537 : Cond.methodLink "PointAnswers" 196 ⟨"java/lang/Math", "max", "(II)I"⟩ ∈ wT := tw 537 (by decide +kernel) rfl
theorem tw_538 : Cond.static ⟨"java/lang/Math", "max", "(II)I"⟩ ∈ wT := tw 538 (by decide +kernel) rfl
theorem tw_539 : Cond.code ⟨"java/lang/Math", "max", "(II)I"⟩ prog_11_method_65_code 2 (some .int) ∈ wT := tw 539 (by decide +kernel) rfl
theorem tw_540 : Cond.methodLink "PointAnswersLaw" 83 ⟨"PointAnswers", "put", "(J)I"⟩ ∈ wT := tw 540 (by decide +kernel) rfl
theorem tw_541 : Cond.instanceMethod ⟨"PointAnswers", "put", "(J)I"⟩ ∈ wT := tw 541 (by decide +kernel) rfl
theorem tw_542 : Cond.selects "PointAnswers" ⟨"PointAnswers", "put", "(J)I"⟩ ⟨"PointAnswers", "put", "(J)I"⟩ ∈ wT := tw 542 (by decide +kernel) rfl
theorem tw_543 : Cond.code ⟨"PointAnswers", "put", "(J)I"⟩ prog_1_method_18_code 5 (some .int) ∈ wT := tw 543 (by decide +kernel) rfl
theorem tw_545 : Cond.static ⟨"PointAnswers$Pad", "signsIn", "(J)I"⟩ ∈ wT := tw 545 (by decide +kernel) rfl
theorem tw_546 : Cond.code ⟨"PointAnswers$Pad", "signsIn", "(J)I"⟩ prog_5_method_3_code 4 (some .int) ∈ wT := tw 546 (by decide +kernel) rfl
theorem tw_547 : Cond.methodLink "PointAnswers$Pad" 19 ⟨"PointAnswers$Pad", "signOf", "(JI)C"⟩ ∈ wT := tw 547 (by decide +kernel) rfl
theorem tw_548 : Cond.static ⟨"PointAnswers$Pad", "signOf", "(JI)C"⟩ ∈ wT := tw 548 (by decide +kernel) rfl
theorem tw_549 : Cond.code ⟨"PointAnswers$Pad", "signOf", "(JI)C"⟩ prog_5_method_4_code 3 (some .char) ∈ wT := tw 549 (by decide +kernel) rfl
theorem tw_550 : Cond.constantLong "PointAnswers$Pad" 23 (255) ∈ wT := tw 550 (by decide +kernel) rfl
theorem tw_554 : Cond.instanceMethod ⟨"PointAnswers$Pad", "append", "(C)V"⟩ ∈ wT := tw 554 (by decide +kernel) rfl
theorem tw_555 : Cond.code ⟨"PointAnswers$Pad", "append", "(C)V"⟩ prog_5_method_5_code 2 none ∈ wT := tw 555 (by decide +kernel) rfl
theorem tw_556 : Cond.methodLink "PointAnswersLaw" 88 ⟨"PointAnswers", "wipe", "()I"⟩ ∈ wT := tw 556 (by decide +kernel) rfl
theorem tw_557 : Cond.instanceMethod ⟨"PointAnswers", "wipe", "()I"⟩ ∈ wT := tw 557 (by decide +kernel) rfl
theorem tw_558 : Cond.selects "PointAnswers" ⟨"PointAnswers", "wipe", "()I"⟩ ⟨"PointAnswers", "wipe", "()I"⟩ ∈ wT := tw 558 (by decide +kernel) rfl
theorem tw_559 : Cond.code ⟨"PointAnswers", "wipe", "()I"⟩ prog_1_method_19_code 1 (some .int) ∈ wT := tw 559 (by decide +kernel) rfl
theorem tw_562 : Cond.instanceMethod ⟨"PointAnswers$Pad", "empty", "()I"⟩ ∈ wT := tw 562 (by decide +kernel) rfl
theorem tw_563 : Cond.code ⟨"PointAnswers$Pad", "empty", "()I"⟩ prog_5_method_2_code 2 (some .int) ∈ wT := tw 563 (by decide +kernel) rfl
theorem tw_564 : Cond.methodLink "PointAnswersLaw" 92 ⟨"PointAnswers", "fault", "()I"⟩ ∈ wT := tw 564 (by decide +kernel) rfl
theorem tw_565 : Cond.instanceMethod ⟨"PointAnswers", "fault", "()I"⟩ ∈ wT := tw 565 (by decide +kernel) rfl
theorem tw_566 : Cond.selects "PointAnswers" ⟨"PointAnswers", "fault", "()I"⟩ ⟨"PointAnswers", "fault", "()I"⟩ ∈ wT := tw 566 (by decide +kernel) rfl
theorem tw_567 : Cond.code ⟨"PointAnswers", "fault", "()I"⟩ prog_1_method_20_code 1 (some .int) ∈ wT := tw 567 (by decide +kernel) rfl
theorem tw_570 : Cond.instanceMethod ⟨"PointAnswers$Reader", "firstFault", "(LPointAnswers$Pad;)I"⟩ ∈ wT := tw 570 (by decide +kernel) rfl
theorem tw_571 : Cond.code ⟨"PointAnswers$Reader", "firstFault", "(LPointAnswers$Pad;)I"⟩ prog_7_method_3_code 3 (some .int) ∈ wT := tw 571 (by decide +kernel) rfl
theorem tw_572 : Cond.methodLink "PointAnswers$Reader" 15 ⟨"PointAnswers$Reader", "rewind", "()V"⟩ ∈ wT := tw 572 (by decide +kernel) rfl
theorem tw_574 : Cond.instanceMethod ⟨"PointAnswers$Reader", "rewind", "()V"⟩ ∈ wT := tw 574 (by decide +kernel) rfl
theorem tw_575 : Cond.code ⟨"PointAnswers$Reader", "rewind", "()V"⟩ prog_7_method_2_code 1 none ∈ wT := tw 575 (by decide +kernel) rfl
theorem tw_576 : Cond.methodLink "PointAnswers$Reader" 18 ⟨"PointAnswers$Reader", "readOrder", "(LPointAnswers$Pad;)Z"⟩ ∈ wT := tw 576 (by decide +kernel) rfl
theorem tw_578 : Cond.instanceMethod ⟨"PointAnswers$Reader", "readOrder", "(LPointAnswers$Pad;)Z"⟩ ∈ wT := tw 578 (by decide +kernel) rfl
theorem tw_579 : Cond.code ⟨"PointAnswers$Reader", "readOrder", "(LPointAnswers$Pad;)Z"⟩ prog_7_method_4_code 2 (some .boolean) ∈ wT := tw 579 (by decide +kernel) rfl
theorem tw_582 : Cond.instanceMethod ⟨"PointAnswers$Pad", "signAt", "(I)C"⟩ ∈ wT := tw 582 (by decide +kernel) rfl
theorem tw_583 : Cond.code ⟨"PointAnswers$Pad", "signAt", "(I)C"⟩ prog_5_method_6_code 2 (some .char) ∈ wT := tw 583 (by decide +kernel) rfl
theorem tw_584 : Cond.methodLink "PointAnswers$Reader" 39 ⟨"PointAnswers$Reader", "readDigit", "(LPointAnswers$Pad;CC)Z"⟩ ∈ wT := tw 584 (by decide +kernel) rfl
theorem tw_586 : Cond.instanceMethod ⟨"PointAnswers$Reader", "readDigit", "(LPointAnswers$Pad;CC)Z"⟩ ∈ wT := tw 586 (by decide +kernel) rfl
theorem tw_587 : Cond.code ⟨"PointAnswers$Reader", "readDigit", "(LPointAnswers$Pad;CC)Z"⟩ prog_7_method_7_code 4 (some .boolean) ∈ wT := tw 587 (by decide +kernel) rfl
theorem tw_588 : Cond.methodLink "PointAnswers$Reader" 52 ⟨"PointAnswers$Reader", "takeDigit", "(LPointAnswers$Pad;CC)Z"⟩ ∈ wT := tw 588 (by decide +kernel) rfl
theorem tw_590 : Cond.instanceMethod ⟨"PointAnswers$Reader", "takeDigit", "(LPointAnswers$Pad;CC)Z"⟩ ∈ wT := tw 590 (by decide +kernel) rfl
theorem tw_591 : Cond.code ⟨"PointAnswers$Reader", "takeDigit", "(LPointAnswers$Pad;CC)Z"⟩ prog_7_method_6_code 5 (some .boolean) ∈ wT := tw 591 (by decide +kernel) rfl
theorem tw_592 : Cond.methodLink "PointAnswers$Reader" 43 ⟨"PointAnswers$Reader", "readPaper", "(LPointAnswers$Pad;)Z"⟩ ∈ wT := tw 592 (by decide +kernel) rfl
theorem tw_594 : Cond.instanceMethod ⟨"PointAnswers$Reader", "readPaper", "(LPointAnswers$Pad;)Z"⟩ ∈ wT := tw 594 (by decide +kernel) rfl
theorem tw_595 : Cond.code ⟨"PointAnswers$Reader", "readPaper", "(LPointAnswers$Pad;)Z"⟩ prog_7_method_9_code 2 (some .boolean) ∈ wT := tw 595 (by decide +kernel) rfl
theorem tw_596 : Cond.methodLink "PointAnswers$Reader" 27 ⟨"PointAnswers$Reader", "take", "(LPointAnswers$Pad;C)Z"⟩ ∈ wT := tw 596 (by decide +kernel) rfl
theorem tw_598 : Cond.instanceMethod ⟨"PointAnswers$Reader", "take", "(LPointAnswers$Pad;C)Z"⟩ ∈ wT := tw 598 (by decide +kernel) rfl
theorem tw_599 : Cond.code ⟨"PointAnswers$Reader", "take", "(LPointAnswers$Pad;C)Z"⟩ prog_7_method_5_code 3 (some .boolean) ∈ wT := tw 599 (by decide +kernel) rfl
theorem tw_600 : Cond.methodLink "PointAnswers$Reader" 61 ⟨"PointAnswers$Reader", "readCites", "(LPointAnswers$Pad;)Z"⟩ ∈ wT := tw 600 (by decide +kernel) rfl
theorem tw_602 : Cond.instanceMethod ⟨"PointAnswers$Reader", "readCites", "(LPointAnswers$Pad;)Z"⟩ ∈ wT := tw 602 (by decide +kernel) rfl
theorem tw_603 : Cond.code ⟨"PointAnswers$Reader", "readCites", "(LPointAnswers$Pad;)Z"⟩ prog_7_method_10_code 3 (some .boolean) ∈ wT := tw 603 (by decide +kernel) rfl
theorem tw_604 : Cond.methodLink "PointAnswers$Reader" 46 ⟨"PointAnswers$Reader", "readNumber", "(LPointAnswers$Pad;)Z"⟩ ∈ wT := tw 604 (by decide +kernel) rfl
theorem tw_606 : Cond.instanceMethod ⟨"PointAnswers$Reader", "readNumber", "(LPointAnswers$Pad;)Z"⟩ ∈ wT := tw 606 (by decide +kernel) rfl
theorem tw_607 : Cond.code ⟨"PointAnswers$Reader", "readNumber", "(LPointAnswers$Pad;)Z"⟩ prog_7_method_8_code 2 (some .boolean) ∈ wT := tw 607 (by decide +kernel) rfl
theorem tw_608 : Cond.methodLink "PointAnswersLaw" 96 ⟨"PointAnswers", "carryOut", "()I"⟩ ∈ wT := tw 608 (by decide +kernel) rfl
theorem tw_609 : Cond.instanceMethod ⟨"PointAnswers", "carryOut", "()I"⟩ ∈ wT := tw 609 (by decide +kernel) rfl
theorem tw_610 : Cond.selects "PointAnswers" ⟨"PointAnswers", "carryOut", "()I"⟩ ⟨"PointAnswers", "carryOut", "()I"⟩ ∈ wT := tw 610 (by decide +kernel) rfl
theorem tw_611 : Cond.code ⟨"PointAnswers", "carryOut", "()I"⟩ prog_1_method_21_code 2 (some .int) ∈ wT := tw 611 (by decide +kernel) rfl
theorem tw_614 : Cond.methodLink "PointAnswers" 227 ⟨"PointAnswers", "follow", "()I"⟩ ∈ wT := tw 614 (by decide +kernel) rfl
theorem tw_616 : Cond.instanceMethod ⟨"PointAnswers", "follow", "()I"⟩ ∈ wT := tw 616 (by decide +kernel) rfl
theorem tw_617 : Cond.code ⟨"PointAnswers", "follow", "()I"⟩ prog_1_method_26_code 1 (some .int) ∈ wT := tw 617 (by decide +kernel) rfl
theorem tw_619 : Cond.methodLink "PointAnswersLaw" 100 ⟨"PointAnswers", "undo", "()I"⟩ ∈ wT := tw 619 (by decide +kernel) rfl
theorem tw_620 : Cond.instanceMethod ⟨"PointAnswers", "undo", "()I"⟩ ∈ wT := tw 620 (by decide +kernel) rfl
theorem tw_621 : Cond.selects "PointAnswers" ⟨"PointAnswers", "undo", "()I"⟩ ⟨"PointAnswers", "undo", "()I"⟩ ∈ wT := tw 621 (by decide +kernel) rfl
theorem tw_622 : Cond.code ⟨"PointAnswers", "undo", "()I"⟩ prog_1_method_22_code 1 (some .int) ∈ wT := tw 622 (by decide +kernel) rfl
theorem tw_625 : Cond.instanceMethod ⟨"PointAnswers$History", "bringBack", "(LPointAnswers$Bundle;)I"⟩ ∈ wT := tw 625 (by decide +kernel) rfl
theorem tw_626 : Cond.code ⟨"PointAnswers$History", "bringBack", "(LPointAnswers$Bundle;)I"⟩ prog_4_method_6_code 3 (some .int) ∈ wT := tw 626 (by decide +kernel) rfl
theorem tw_627 : Cond.methodLink "PointAnswersLaw" 104 ⟨"PointAnswers", "save", "(I)I"⟩ ∈ wT := tw 627 (by decide +kernel) rfl
theorem tw_628 : Cond.instanceMethod ⟨"PointAnswers", "save", "(I)I"⟩ ∈ wT := tw 628 (by decide +kernel) rfl
theorem tw_629 : Cond.selects "PointAnswers" ⟨"PointAnswers", "save", "(I)I"⟩ ⟨"PointAnswers", "save", "(I)I"⟩ ∈ wT := tw 629 (by decide +kernel) rfl
theorem tw_630 : Cond.code ⟨"PointAnswers", "save", "(I)I"⟩ prog_1_method_23_code 3 (some .int) ∈ wT := tw 630 (by decide +kernel) rfl
theorem tw_631 : Cond.methodLink "PointAnswers" 238 ⟨"PointAnswers", "slotRow", "(I)LPointAnswers$Bundle;"⟩ ∈ wT := tw 631 (by decide +kernel) rfl
theorem tw_633 : Cond.instanceMethod ⟨"PointAnswers", "slotRow", "(I)LPointAnswers$Bundle;"⟩ ∈ wT := tw 633 (by decide +kernel) rfl
theorem tw_634 : Cond.code ⟨"PointAnswers", "slotRow", "(I)LPointAnswers$Bundle;"⟩ prog_1_method_25_code 2 (some (.object "PointAnswers$Bundle")) ∈ wT := tw 634 (by decide +kernel) rfl
theorem tw_636 : Cond.methodLink "PointAnswersLaw" 108 ⟨"PointAnswers", "restore", "(I)I"⟩ ∈ wT := tw 636 (by decide +kernel) rfl
theorem tw_637 : Cond.instanceMethod ⟨"PointAnswers", "restore", "(I)I"⟩ ∈ wT := tw 637 (by decide +kernel) rfl
theorem tw_638 : Cond.selects "PointAnswers" ⟨"PointAnswers", "restore", "(I)I"⟩ ⟨"PointAnswers", "restore", "(I)I"⟩ ∈ wT := tw 638 (by decide +kernel) rfl
theorem tw_639 : Cond.code ⟨"PointAnswers", "restore", "(I)I"⟩ prog_1_method_24_code 3 (some .int) ∈ wT := tw 639 (by decide +kernel) rfl
theorem tw_640 : Cond.classLink "PointAnswersLaw" 10 "PointAnswersModel" ∈ wT := tw 640 (by decide +kernel) rfl
theorem tw_641 : Cond.instantiable "PointAnswersModel" 15 ∈ wT := tw 641 (by decide +kernel) rfl
theorem tw_642 : Cond.methodLink "PointAnswersLaw" 12 ⟨"PointAnswersModel", "<init>", "()V"⟩ ∈ wT := tw 642 (by decide +kernel) rfl
theorem tw_643 : Cond.instanceMethod ⟨"PointAnswersModel", "<init>", "()V"⟩ ∈ wT := tw 643 (by decide +kernel) rfl
theorem tw_644 : Cond.code ⟨"PointAnswersModel", "<init>", "()V"⟩ prog_9_method_1_code 1 none ∈ wT := tw 644 (by decide +kernel) rfl
theorem tw_645 : Cond.methodLink "PointAnswersModel" 1 ⟨"java/lang/Object", "<init>", "()V"⟩ ∈ wT := tw 645 (by decide +kernel) rfl
theorem tw_646 : Cond.fieldLink "PointAnswersModel" 7 "PointAnswersModel" "z" "[I" ∈ wT := tw 646 (by decide +kernel) rfl
theorem tw_647 : Cond.fieldLink "PointAnswersModel" 13 "PointAnswersModel" "past" "[I" ∈ wT := tw 647 (by decide +kernel) rfl
theorem tw_648 : Cond.fieldLink "PointAnswersModel" 16 "PointAnswersModel" "slots" "[I" ∈ wT := tw 648 (by decide +kernel) rfl
theorem tw_649 : Cond.fieldLink "PointAnswersModel" 19 "PointAnswersModel" "isSaved" "[Z" ∈ wT := tw 649 (by decide +kernel) rfl
theorem tw_650 : Cond.fieldLink "PointAnswersModel" 46 "PointAnswersModel" "pastMany" "I" ∈ wT := tw 650 (by decide +kernel) rfl
theorem tw_651 : Cond.fieldLink "PointAnswersModel" 23 "PointAnswersModel" "pad" "[C" ∈ wT := tw 651 (by decide +kernel) rfl
theorem tw_652 : Cond.fieldLink "PointAnswersModel" 146 "PointAnswersModel" "typed" "I" ∈ wT := tw 652 (by decide +kernel) rfl
theorem tw_653 : Cond.fieldLink "PointAnswersModel" 27 "PointAnswersModel" "why" "[I" ∈ wT := tw 653 (by decide +kernel) rfl
theorem tw_654 : Cond.fieldLink "PointAnswersModel" 30 "PointAnswersModel" "taken" "[I" ∈ wT := tw 654 (by decide +kernel) rfl
theorem tw_655 : Cond.fieldLink "PointAnswersModel" 33 "PointAnswersModel" "stands" "[I" ∈ wT := tw 655 (by decide +kernel) rfl
theorem tw_656 : Cond.fieldLink "PointAnswersModel" 36 "PointAnswersModel" "falls" "[I" ∈ wT := tw 656 (by decide +kernel) rfl
theorem tw_657 : Cond.fieldLink "PointAnswersModel" 39 "PointAnswersModel" "orders" "[I" ∈ wT := tw 657 (by decide +kernel) rfl
theorem tw_658 : Cond.fieldLink "PointAnswersModel" 182 "PointAnswersModel" "orderMany" "I" ∈ wT := tw 658 (by decide +kernel) rfl
theorem tw_659 : Cond.fieldLink "PointAnswersModel" 166 "PointAnswersModel" "spot" "I" ∈ wT := tw 659 (by decide +kernel) rfl
theorem tw_660 : Cond.fieldLink "PointAnswersModel" 169 "PointAnswersModel" "wrong" "I" ∈ wT := tw 660 (by decide +kernel) rfl
theorem tw_692 : Cond.arrayClass .boolean ∈ wT := tw 692 (by decide +kernel) rfl
theorem tw_693 : Cond.methodLink "PointAnswersLaw" 103 ⟨"PointAnswersModel", "undo", "()I"⟩ ∈ wT := tw 693 (by decide +kernel) rfl
theorem tw_694 : Cond.instanceMethod ⟨"PointAnswersModel", "undo", "()I"⟩ ∈ wT := tw 694 (by decide +kernel) rfl
theorem tw_695 : Cond.selects "PointAnswersModel" ⟨"PointAnswersModel", "undo", "()I"⟩ ⟨"PointAnswersModel", "undo", "()I"⟩ ∈ wT := tw 695 (by decide +kernel) rfl
theorem tw_696 : Cond.code ⟨"PointAnswersModel", "undo", "()I"⟩ prog_9_method_10_code 2 (some .int) ∈ wT := tw 696 (by decide +kernel) rfl
theorem tw_697 : Cond.methodLink "PointAnswersLaw" 107 ⟨"PointAnswersModel", "save", "(I)I"⟩ ∈ wT := tw 697 (by decide +kernel) rfl
theorem tw_698 : Cond.instanceMethod ⟨"PointAnswersModel", "save", "(I)I"⟩ ∈ wT := tw 698 (by decide +kernel) rfl
theorem tw_699 : Cond.selects "PointAnswersModel" ⟨"PointAnswersModel", "save", "(I)I"⟩ ⟨"PointAnswersModel", "save", "(I)I"⟩ ∈ wT := tw 699 (by decide +kernel) rfl
theorem tw_700 : Cond.code ⟨"PointAnswersModel", "save", "(I)I"⟩ prog_9_method_11_code 3 (some .int) ∈ wT := tw 700 (by decide +kernel) rfl
theorem tw_701 : Cond.methodLink "PointAnswersModel" 50 ⟨"PointAnswersModel", "in", "(III)Z"⟩ ∈ wT := tw 701 (by decide +kernel) rfl
theorem tw_702 : Cond.static ⟨"PointAnswersModel", "in", "(III)Z"⟩ ∈ wT := tw 702 (by decide +kernel) rfl
theorem tw_703 : Cond.code ⟨"PointAnswersModel", "in", "(III)Z"⟩ prog_9_method_2_code 3 (some .boolean) ∈ wT := tw 703 (by decide +kernel) rfl
theorem tw_704 : Cond.methodLink "PointAnswersLaw" 111 ⟨"PointAnswersModel", "restore", "(I)I"⟩ ∈ wT := tw 704 (by decide +kernel) rfl
theorem tw_705 : Cond.instanceMethod ⟨"PointAnswersModel", "restore", "(I)I"⟩ ∈ wT := tw 705 (by decide +kernel) rfl
theorem tw_706 : Cond.selects "PointAnswersModel" ⟨"PointAnswersModel", "restore", "(I)I"⟩ ⟨"PointAnswersModel", "restore", "(I)I"⟩ ∈ wT := tw 706 (by decide +kernel) rfl
theorem tw_707 : Cond.code ⟨"PointAnswersModel", "restore", "(I)I"⟩ prog_9_method_12_code 3 (some .int) ∈ wT := tw 707 (by decide +kernel) rfl
theorem tw_708 : Cond.methodLink "PointAnswersModel" 54 ⟨"PointAnswersModel", "record", "()V"⟩ ∈ wT := tw 708 (by decide +kernel) rfl
theorem tw_710 : Cond.instanceMethod ⟨"PointAnswersModel", "record", "()V"⟩ ∈ wT := tw 710 (by decide +kernel) rfl
theorem tw_711 : Cond.code ⟨"PointAnswersModel", "record", "()V"⟩ prog_9_method_9_code 2 none ∈ wT := tw 711 (by decide +kernel) rfl
theorem tw_712 : Cond.methodLink "PointAnswersLaw" 17 ⟨"PointAnswersModel", "set", "(II)I"⟩ ∈ wT := tw 712 (by decide +kernel) rfl
theorem tw_713 : Cond.instanceMethod ⟨"PointAnswersModel", "set", "(II)I"⟩ ∈ wT := tw 713 (by decide +kernel) rfl
theorem tw_714 : Cond.selects "PointAnswersModel" ⟨"PointAnswersModel", "set", "(II)I"⟩ ⟨"PointAnswersModel", "set", "(II)I"⟩ ∈ wT := tw 714 (by decide +kernel) rfl
theorem tw_715 : Cond.code ⟨"PointAnswersModel", "set", "(II)I"⟩ prog_9_method_22_code 4 (some .int) ∈ wT := tw 715 (by decide +kernel) rfl
theorem tw_716 : Cond.methodLink "PointAnswersModel" 77 ⟨"PointAnswersModel", "isValue", "(II)Z"⟩ ∈ wT := tw 716 (by decide +kernel) rfl
theorem tw_717 : Cond.static ⟨"PointAnswersModel", "isValue", "(II)Z"⟩ ∈ wT := tw 717 (by decide +kernel) rfl
theorem tw_718 : Cond.code ⟨"PointAnswersModel", "isValue", "(II)Z"⟩ prog_9_method_21_code 2 (some .boolean) ∈ wT := tw 718 (by decide +kernel) rfl
theorem tw_719 : Cond.methodLink "PointAnswersLaw" 22 ⟨"PointAnswersModel", "claim", "(III)I"⟩ ∈ wT := tw 719 (by decide +kernel) rfl
theorem tw_720 : Cond.instanceMethod ⟨"PointAnswersModel", "claim", "(III)I"⟩ ∈ wT := tw 720 (by decide +kernel) rfl
theorem tw_721 : Cond.selects "PointAnswersModel" ⟨"PointAnswersModel", "claim", "(III)I"⟩ ⟨"PointAnswersModel", "claim", "(III)I"⟩ ∈ wT := tw 721 (by decide +kernel) rfl
theorem tw_722 : Cond.code ⟨"PointAnswersModel", "claim", "(III)I"⟩ prog_9_method_26_code 5 (some .int) ∈ wT := tw 722 (by decide +kernel) rfl
theorem tw_723 : Cond.methodLink "PointAnswersModel" 88 ⟨"PointAnswersModel", "whyNotClaim", "(III)I"⟩ ∈ wT := tw 723 (by decide +kernel) rfl
theorem tw_725 : Cond.instanceMethod ⟨"PointAnswersModel", "whyNotClaim", "(III)I"⟩ ∈ wT := tw 725 (by decide +kernel) rfl
theorem tw_726 : Cond.code ⟨"PointAnswersModel", "whyNotClaim", "(III)I"⟩ prog_9_method_25_code 4 (some .int) ∈ wT := tw 726 (by decide +kernel) rfl
theorem tw_727 : Cond.methodLink "PointAnswersModel" 85 ⟨"PointAnswersModel", "isFile", "(II)Z"⟩ ∈ wT := tw 727 (by decide +kernel) rfl
theorem tw_728 : Cond.static ⟨"PointAnswersModel", "isFile", "(II)Z"⟩ ∈ wT := tw 728 (by decide +kernel) rfl
theorem tw_729 : Cond.code ⟨"PointAnswersModel", "isFile", "(II)Z"⟩ prog_9_method_24_code 2 (some .boolean) ∈ wT := tw 729 (by decide +kernel) rfl
theorem tw_730 : Cond.methodLink "PointAnswersModel" 92 ⟨"PointAnswersModel", "file", "(IIII)I"⟩ ∈ wT := tw 730 (by decide +kernel) rfl
theorem tw_732 : Cond.instanceMethod ⟨"PointAnswersModel", "file", "(IIII)I"⟩ ∈ wT := tw 732 (by decide +kernel) rfl
theorem tw_733 : Cond.code ⟨"PointAnswersModel", "file", "(IIII)I"⟩ prog_9_method_23_code 6 (some .int) ∈ wT := tw 733 (by decide +kernel) rfl
theorem tw_734 : Cond.methodLink "PointAnswersModel" 81 ⟨"PointAnswersModel", "lay", "(III)V"⟩ ∈ wT := tw 734 (by decide +kernel) rfl
theorem tw_736 : Cond.instanceMethod ⟨"PointAnswersModel", "lay", "(III)V"⟩ ∈ wT := tw 736 (by decide +kernel) rfl
theorem tw_737 : Cond.code ⟨"PointAnswersModel", "lay", "(III)V"⟩ prog_9_method_5_code 4 none ∈ wT := tw 737 (by decide +kernel) rfl
theorem tw_738 : Cond.methodLink "PointAnswersLaw" 26 ⟨"PointAnswersModel", "answer", "(III)I"⟩ ∈ wT := tw 738 (by decide +kernel) rfl
theorem tw_739 : Cond.instanceMethod ⟨"PointAnswersModel", "answer", "(III)I"⟩ ∈ wT := tw 739 (by decide +kernel) rfl
theorem tw_740 : Cond.selects "PointAnswersModel" ⟨"PointAnswersModel", "answer", "(III)I"⟩ ⟨"PointAnswersModel", "answer", "(III)I"⟩ ∈ wT := tw 740 (by decide +kernel) rfl
theorem tw_741 : Cond.code ⟨"PointAnswersModel", "answer", "(III)I"⟩ prog_9_method_28_code 5 (some .int) ∈ wT := tw 741 (by decide +kernel) rfl
theorem tw_742 : Cond.methodLink "PointAnswersModel" 99 ⟨"PointAnswersModel", "whyNotAnswer", "(III)I"⟩ ∈ wT := tw 742 (by decide +kernel) rfl
theorem tw_744 : Cond.instanceMethod ⟨"PointAnswersModel", "whyNotAnswer", "(III)I"⟩ ∈ wT := tw 744 (by decide +kernel) rfl
theorem tw_745 : Cond.code ⟨"PointAnswersModel", "whyNotAnswer", "(III)I"⟩ prog_9_method_27_code 4 (some .int) ∈ wT := tw 745 (by decide +kernel) rfl
theorem tw_746 : Cond.methodLink "PointAnswersModel" 96 ⟨"PointAnswersModel", "isPoint", "(I)Z"⟩ ∈ wT := tw 746 (by decide +kernel) rfl
theorem tw_748 : Cond.instanceMethod ⟨"PointAnswersModel", "isPoint", "(I)Z"⟩ ∈ wT := tw 748 (by decide +kernel) rfl
theorem tw_749 : Cond.code ⟨"PointAnswersModel", "isPoint", "(I)Z"⟩ prog_9_method_3_code 2 (some .boolean) ∈ wT := tw 749 (by decide +kernel) rfl
theorem tw_750 : Cond.methodLink "PointAnswersModel" 61 ⟨"PointAnswersModel", "isWithdrawn", "(I)Z"⟩ ∈ wT := tw 750 (by decide +kernel) rfl
theorem tw_752 : Cond.instanceMethod ⟨"PointAnswersModel", "isWithdrawn", "(I)Z"⟩ ∈ wT := tw 752 (by decide +kernel) rfl
theorem tw_753 : Cond.code ⟨"PointAnswersModel", "isWithdrawn", "(I)Z"⟩ prog_9_method_7_code 2 (some .boolean) ∈ wT := tw 753 (by decide +kernel) rfl
theorem tw_754 : Cond.methodLink "PointAnswersModel" 42 ⟨"PointAnswersModel", "its", "(II)I"⟩ ∈ wT := tw 754 (by decide +kernel) rfl
theorem tw_756 : Cond.instanceMethod ⟨"PointAnswersModel", "its", "(II)I"⟩ ∈ wT := tw 756 (by decide +kernel) rfl
theorem tw_757 : Cond.code ⟨"PointAnswersModel", "its", "(II)I"⟩ prog_9_method_4_code 3 (some .int) ∈ wT := tw 757 (by decide +kernel) rfl
theorem tw_758 : Cond.methodLink "PointAnswersLaw" 31 ⟨"PointAnswersModel", "withdraw", "(I)I"⟩ ∈ wT := tw 758 (by decide +kernel) rfl
theorem tw_759 : Cond.instanceMethod ⟨"PointAnswersModel", "withdraw", "(I)I"⟩ ∈ wT := tw 759 (by decide +kernel) rfl
theorem tw_760 : Cond.selects "PointAnswersModel" ⟨"PointAnswersModel", "withdraw", "(I)I"⟩ ⟨"PointAnswersModel", "withdraw", "(I)I"⟩ ∈ wT := tw 760 (by decide +kernel) rfl
theorem tw_761 : Cond.code ⟨"PointAnswersModel", "withdraw", "(I)I"⟩ prog_9_method_30_code 3 (some .int) ∈ wT := tw 761 (by decide +kernel) rfl
theorem tw_762 : Cond.methodLink "PointAnswersModel" 102 ⟨"PointAnswersModel", "whyNotWithdraw", "(I)I"⟩ ∈ wT := tw 762 (by decide +kernel) rfl
theorem tw_764 : Cond.instanceMethod ⟨"PointAnswersModel", "whyNotWithdraw", "(I)I"⟩ ∈ wT := tw 764 (by decide +kernel) rfl
theorem tw_765 : Cond.code ⟨"PointAnswersModel", "whyNotWithdraw", "(I)I"⟩ prog_9_method_29_code 2 (some .int) ∈ wT := tw 765 (by decide +kernel) rfl
theorem tw_766 : Cond.methodLink "PointAnswersModel" 106 ⟨"PointAnswersModel", "look", "()V"⟩ ∈ wT := tw 766 (by decide +kernel) rfl
theorem tw_768 : Cond.instanceMethod ⟨"PointAnswersModel", "look", "()V"⟩ ∈ wT := tw 768 (by decide +kernel) rfl
theorem tw_769 : Cond.code ⟨"PointAnswersModel", "look", "()V"⟩ prog_9_method_17_code 1 none ∈ wT := tw 769 (by decide +kernel) rfl
theorem tw_770 : Cond.methodLink "PointAnswersModel" 70 ⟨"PointAnswersModel", "layOut", "()V"⟩ ∈ wT := tw 770 (by decide +kernel) rfl
theorem tw_772 : Cond.instanceMethod ⟨"PointAnswersModel", "layOut", "()V"⟩ ∈ wT := tw 772 (by decide +kernel) rfl
theorem tw_773 : Cond.code ⟨"PointAnswersModel", "layOut", "()V"⟩ prog_9_method_15_code 4 none ∈ wT := tw 773 (by decide +kernel) rfl
theorem tw_774 : Cond.methodLink "PointAnswersModel" 64 ⟨"PointAnswersModel", "lapsed", "(I)Z"⟩ ∈ wT := tw 774 (by decide +kernel) rfl
theorem tw_776 : Cond.instanceMethod ⟨"PointAnswersModel", "lapsed", "(I)Z"⟩ ∈ wT := tw 776 (by decide +kernel) rfl
theorem tw_777 : Cond.code ⟨"PointAnswersModel", "lapsed", "(I)Z"⟩ prog_9_method_13_code 2 (some .boolean) ∈ wT := tw 777 (by decide +kernel) rfl
theorem tw_778 : Cond.methodLink "PointAnswersModel" 57 ⟨"PointAnswersModel", "isClaim", "(I)Z"⟩ ∈ wT := tw 778 (by decide +kernel) rfl
theorem tw_780 : Cond.instanceMethod ⟨"PointAnswersModel", "isClaim", "(I)Z"⟩ ∈ wT := tw 780 (by decide +kernel) rfl
theorem tw_781 : Cond.code ⟨"PointAnswersModel", "isClaim", "(I)Z"⟩ prog_9_method_6_code 2 (some .boolean) ∈ wT := tw 781 (by decide +kernel) rfl
theorem tw_782 : Cond.methodLink "PointAnswersModel" 67 ⟨"PointAnswersModel", "hasNoCase", "(I)Z"⟩ ∈ wT := tw 782 (by decide +kernel) rfl
theorem tw_784 : Cond.instanceMethod ⟨"PointAnswersModel", "hasNoCase", "(I)Z"⟩ ∈ wT := tw 784 (by decide +kernel) rfl
theorem tw_785 : Cond.code ⟨"PointAnswersModel", "hasNoCase", "(I)Z"⟩ prog_9_method_14_code 2 (some .boolean) ∈ wT := tw 785 (by decide +kernel) rfl
theorem tw_786 : Cond.methodLink "PointAnswersModel" 73 ⟨"PointAnswersModel", "layAnswered", "(I)V"⟩ ∈ wT := tw 786 (by decide +kernel) rfl
theorem tw_788 : Cond.instanceMethod ⟨"PointAnswersModel", "layAnswered", "(I)V"⟩ ∈ wT := tw 788 (by decide +kernel) rfl
theorem tw_789 : Cond.code ⟨"PointAnswersModel", "layAnswered", "(I)V"⟩ prog_9_method_16_code 5 none ∈ wT := tw 789 (by decide +kernel) rfl
theorem tw_790 : Cond.methodLink "PointAnswersModel" 109 ⟨"PointAnswersModel", "standing", "()I"⟩ ∈ wT := tw 790 (by decide +kernel) rfl
theorem tw_792 : Cond.instanceMethod ⟨"PointAnswersModel", "standing", "()I"⟩ ∈ wT := tw 792 (by decide +kernel) rfl
theorem tw_793 : Cond.code ⟨"PointAnswersModel", "standing", "()I"⟩ prog_9_method_18_code 3 (some .int) ∈ wT := tw 793 (by decide +kernel) rfl
theorem tw_794 : Cond.methodLink "PointAnswersModel" 113 ⟨"PointAnswersModel", "bits", "(I)I"⟩ ∈ wT := tw 794 (by decide +kernel) rfl
theorem tw_795 : Cond.static ⟨"PointAnswersModel", "bits", "(I)I"⟩ ∈ wT := tw 795 (by decide +kernel) rfl
theorem tw_796 : Cond.code ⟨"PointAnswersModel", "bits", "(I)I"⟩ prog_9_method_8_code 3 (some .int) ∈ wT := tw 796 (by decide +kernel) rfl
theorem tw_797 : Cond.methodLink "PointAnswersLaw" 35 ⟨"PointAnswersModel", "renew", "(I)I"⟩ ∈ wT := tw 797 (by decide +kernel) rfl
theorem tw_798 : Cond.instanceMethod ⟨"PointAnswersModel", "renew", "(I)I"⟩ ∈ wT := tw 798 (by decide +kernel) rfl
theorem tw_799 : Cond.selects "PointAnswersModel" ⟨"PointAnswersModel", "renew", "(I)I"⟩ ⟨"PointAnswersModel", "renew", "(I)I"⟩ ∈ wT := tw 799 (by decide +kernel) rfl
theorem tw_800 : Cond.code ⟨"PointAnswersModel", "renew", "(I)I"⟩ prog_9_method_32_code 4 (some .int) ∈ wT := tw 800 (by decide +kernel) rfl
theorem tw_801 : Cond.methodLink "PointAnswersModel" 116 ⟨"PointAnswersModel", "whyNotRenew", "(I)I"⟩ ∈ wT := tw 801 (by decide +kernel) rfl
theorem tw_803 : Cond.instanceMethod ⟨"PointAnswersModel", "whyNotRenew", "(I)I"⟩ ∈ wT := tw 803 (by decide +kernel) rfl
theorem tw_804 : Cond.code ⟨"PointAnswersModel", "whyNotRenew", "(I)I"⟩ prog_9_method_31_code 2 (some .int) ∈ wT := tw 804 (by decide +kernel) rfl
theorem tw_805 : Cond.methodLink "PointAnswersLaw" 39 ⟨"PointAnswersModel", "overrule", "(I)I"⟩ ∈ wT := tw 805 (by decide +kernel) rfl
theorem tw_806 : Cond.instanceMethod ⟨"PointAnswersModel", "overrule", "(I)I"⟩ ∈ wT := tw 806 (by decide +kernel) rfl
theorem tw_807 : Cond.selects "PointAnswersModel" ⟨"PointAnswersModel", "overrule", "(I)I"⟩ ⟨"PointAnswersModel", "overrule", "(I)I"⟩ ∈ wT := tw 807 (by decide +kernel) rfl
theorem tw_808 : Cond.code ⟨"PointAnswersModel", "overrule", "(I)I"⟩ prog_9_method_34_code 2 (some .int) ∈ wT := tw 808 (by decide +kernel) rfl
theorem tw_809 : Cond.methodLink "PointAnswersModel" 119 ⟨"PointAnswersModel", "overruleIt", "(I)I"⟩ ∈ wT := tw 809 (by decide +kernel) rfl
theorem tw_811 : Cond.instanceMethod ⟨"PointAnswersModel", "overruleIt", "(I)I"⟩ ∈ wT := tw 811 (by decide +kernel) rfl
theorem tw_812 : Cond.code ⟨"PointAnswersModel", "overruleIt", "(I)I"⟩ prog_9_method_33_code 2 (some .int) ∈ wT := tw 812 (by decide +kernel) rfl
theorem tw_813 : Cond.methodLink "PointAnswersLaw" 43 ⟨"PointAnswersModel", "pass", "(I)I"⟩ ∈ wT := tw 813 (by decide +kernel) rfl
theorem tw_814 : Cond.instanceMethod ⟨"PointAnswersModel", "pass", "(I)I"⟩ ∈ wT := tw 814 (by decide +kernel) rfl
theorem tw_815 : Cond.selects "PointAnswersModel" ⟨"PointAnswersModel", "pass", "(I)I"⟩ ⟨"PointAnswersModel", "pass", "(I)I"⟩ ∈ wT := tw 815 (by decide +kernel) rfl
theorem tw_816 : Cond.code ⟨"PointAnswersModel", "pass", "(I)I"⟩ prog_9_method_36_code 3 (some .int) ∈ wT := tw 816 (by decide +kernel) rfl
theorem tw_817 : Cond.methodLink "PointAnswersModel" 122 ⟨"PointAnswersModel", "whyNotPass", "(I)I"⟩ ∈ wT := tw 817 (by decide +kernel) rfl
theorem tw_819 : Cond.instanceMethod ⟨"PointAnswersModel", "whyNotPass", "(I)I"⟩ ∈ wT := tw 819 (by decide +kernel) rfl
theorem tw_820 : Cond.code ⟨"PointAnswersModel", "whyNotPass", "(I)I"⟩ prog_9_method_35_code 2 (some .int) ∈ wT := tw 820 (by decide +kernel) rfl
theorem tw_821 : Cond.methodLink "PointAnswersLaw" 47 ⟨"PointAnswersModel", "of", "(II)I"⟩ ∈ wT := tw 821 (by decide +kernel) rfl
theorem tw_822 : Cond.instanceMethod ⟨"PointAnswersModel", "of", "(II)I"⟩ ∈ wT := tw 822 (by decide +kernel) rfl
theorem tw_823 : Cond.selects "PointAnswersModel" ⟨"PointAnswersModel", "of", "(II)I"⟩ ⟨"PointAnswersModel", "of", "(II)I"⟩ ∈ wT := tw 823 (by decide +kernel) rfl
theorem tw_824 : Cond.code ⟨"PointAnswersModel", "of", "(II)I"⟩ prog_9_method_40_code 3 (some .int) ∈ wT := tw 824 (by decide +kernel) rfl
theorem tw_825 : Cond.methodLink "PointAnswersModel" 125 ⟨"PointAnswersModel", "lowestThatStands", "(I)I"⟩ ∈ wT := tw 825 (by decide +kernel) rfl
theorem tw_827 : Cond.instanceMethod ⟨"PointAnswersModel", "lowestThatStands", "(I)I"⟩ ∈ wT := tw 827 (by decide +kernel) rfl
theorem tw_828 : Cond.code ⟨"PointAnswersModel", "lowestThatStands", "(I)I"⟩ prog_9_method_37_code 3 (some .int) ∈ wT := tw 828 (by decide +kernel) rfl
theorem tw_829 : Cond.methodLink "PointAnswersModel" 128 ⟨"PointAnswersModel", "answersTo", "(I)I"⟩ ∈ wT := tw 829 (by decide +kernel) rfl
theorem tw_831 : Cond.instanceMethod ⟨"PointAnswersModel", "answersTo", "(I)I"⟩ ∈ wT := tw 831 (by decide +kernel) rfl
theorem tw_832 : Cond.code ⟨"PointAnswersModel", "answersTo", "(I)I"⟩ prog_9_method_20_code 4 (some .int) ∈ wT := tw 832 (by decide +kernel) rfl
theorem tw_833 : Cond.methodLink "PointAnswersModel" 131 ⟨"PointAnswersModel", "depth", "(I)I"⟩ ∈ wT := tw 833 (by decide +kernel) rfl
theorem tw_835 : Cond.instanceMethod ⟨"PointAnswersModel", "depth", "(I)I"⟩ ∈ wT := tw 835 (by decide +kernel) rfl
theorem tw_836 : Cond.code ⟨"PointAnswersModel", "depth", "(I)I"⟩ prog_9_method_38_code 4 (some .int) ∈ wT := tw 836 (by decide +kernel) rfl
theorem tw_837 : Cond.methodLink "PointAnswersModel" 134 ⟨"PointAnswersModel", "daysYet", "(I)I"⟩ ∈ wT := tw 837 (by decide +kernel) rfl
theorem tw_839 : Cond.instanceMethod ⟨"PointAnswersModel", "daysYet", "(I)I"⟩ ∈ wT := tw 839 (by decide +kernel) rfl
theorem tw_840 : Cond.code ⟨"PointAnswersModel", "daysYet", "(I)I"⟩ prog_9_method_39_code 2 (some .int) ∈ wT := tw 840 (by decide +kernel) rfl
theorem tw_841 : Cond.methodLink "PointAnswersLaw" 51 ⟨"PointAnswersModel", "count", "(I)I"⟩ ∈ wT := tw 841 (by decide +kernel) rfl
theorem tw_842 : Cond.instanceMethod ⟨"PointAnswersModel", "count", "(I)I"⟩ ∈ wT := tw 842 (by decide +kernel) rfl
theorem tw_843 : Cond.selects "PointAnswersModel" ⟨"PointAnswersModel", "count", "(I)I"⟩ ⟨"PointAnswersModel", "count", "(I)I"⟩ ∈ wT := tw 843 (by decide +kernel) rfl
theorem tw_844 : Cond.code ⟨"PointAnswersModel", "count", "(I)I"⟩ prog_9_method_44_code 2 (some .int) ∈ wT := tw 844 (by decide +kernel) rfl
theorem tw_845 : Cond.methodLink "PointAnswersModel" 137 ⟨"PointAnswersModel", "claims", "()I"⟩ ∈ wT := tw 845 (by decide +kernel) rfl
theorem tw_847 : Cond.instanceMethod ⟨"PointAnswersModel", "claims", "()I"⟩ ∈ wT := tw 847 (by decide +kernel) rfl
theorem tw_848 : Cond.code ⟨"PointAnswersModel", "claims", "()I"⟩ prog_9_method_19_code 3 (some .int) ∈ wT := tw 848 (by decide +kernel) rfl
theorem tw_849 : Cond.methodLink "PointAnswersModel" 140 ⟨"PointAnswersModel", "outOnes", "()I"⟩ ∈ wT := tw 849 (by decide +kernel) rfl
theorem tw_851 : Cond.instanceMethod ⟨"PointAnswersModel", "outOnes", "()I"⟩ ∈ wT := tw 851 (by decide +kernel) rfl
theorem tw_852 : Cond.code ⟨"PointAnswersModel", "outOnes", "()I"⟩ prog_9_method_41_code 3 (some .int) ∈ wT := tw 852 (by decide +kernel) rfl
theorem tw_853 : Cond.methodLink "PointAnswersModel" 143 ⟨"PointAnswersModel", "answeredOnes", "()I"⟩ ∈ wT := tw 853 (by decide +kernel) rfl
theorem tw_855 : Cond.instanceMethod ⟨"PointAnswersModel", "answeredOnes", "()I"⟩ ∈ wT := tw 855 (by decide +kernel) rfl
theorem tw_856 : Cond.code ⟨"PointAnswersModel", "answeredOnes", "()I"⟩ prog_9_method_42_code 3 (some .int) ∈ wT := tw 856 (by decide +kernel) rfl
theorem tw_857 : Cond.methodLink "PointAnswersLaw" 55 ⟨"PointAnswersModel", "points", "(I)I"⟩ ∈ wT := tw 857 (by decide +kernel) rfl
theorem tw_858 : Cond.instanceMethod ⟨"PointAnswersModel", "points", "(I)I"⟩ ∈ wT := tw 858 (by decide +kernel) rfl
theorem tw_859 : Cond.selects "PointAnswersModel" ⟨"PointAnswersModel", "points", "(I)I"⟩ ⟨"PointAnswersModel", "points", "(I)I"⟩ ∈ wT := tw 859 (by decide +kernel) rfl
theorem tw_860 : Cond.code ⟨"PointAnswersModel", "points", "(I)I"⟩ prog_9_method_45_code 2 (some .int) ∈ wT := tw 860 (by decide +kernel) rfl
theorem tw_861 : Cond.methodLink "PointAnswersModel" 149 ⟨"PointAnswersModel", "ofSide", "(I)I"⟩ ∈ wT := tw 861 (by decide +kernel) rfl
theorem tw_863 : Cond.instanceMethod ⟨"PointAnswersModel", "ofSide", "(I)I"⟩ ∈ wT := tw 863 (by decide +kernel) rfl
theorem tw_864 : Cond.code ⟨"PointAnswersModel", "ofSide", "(I)I"⟩ prog_9_method_43_code 4 (some .int) ∈ wT := tw 864 (by decide +kernel) rfl
theorem tw_865 : Cond.methodLink "PointAnswersLaw" 59 ⟨"PointAnswersModel", "share", "(I)I"⟩ ∈ wT := tw 865 (by decide +kernel) rfl
theorem tw_866 : Cond.instanceMethod ⟨"PointAnswersModel", "share", "(I)I"⟩ ∈ wT := tw 866 (by decide +kernel) rfl
theorem tw_867 : Cond.selects "PointAnswersModel" ⟨"PointAnswersModel", "share", "(I)I"⟩ ⟨"PointAnswersModel", "share", "(I)I"⟩ ∈ wT := tw 867 (by decide +kernel) rfl
theorem tw_868 : Cond.code ⟨"PointAnswersModel", "share", "(I)I"⟩ prog_9_method_47_code 3 (some .int) ∈ wT := tw 868 (by decide +kernel) rfl
theorem tw_869 : Cond.methodLink "PointAnswersModel" 154 ⟨"PointAnswersModel", "bitsOf", "(F)I"⟩ ∈ wT := tw 869 (by decide +kernel) rfl
theorem tw_870 : Cond.static ⟨"PointAnswersModel", "bitsOf", "(F)I"⟩ ∈ wT := tw 870 (by decide +kernel) rfl
theorem tw_871 : Cond.code ⟨"PointAnswersModel", "bitsOf", "(F)I"⟩ prog_9_method_46_code 3 (some .int) ∈ wT := tw 871 (by decide +kernel) rfl
theorem tw_872 : Cond.constantFloat "PointAnswersModel" 152 (1258291200 : UInt32) ∈ wT := tw 872 (by decide +kernel) rfl
theorem tw_873 : Cond.constant "PointAnswersModel" 153 (8388608) ∈ wT := tw 873 (by decide +kernel) rfl
theorem tw_874 : Cond.methodLink "PointAnswersLaw" 63 ⟨"PointAnswersModel", "toFall", "(I)I"⟩ ∈ wT := tw 874 (by decide +kernel) rfl
theorem tw_875 : Cond.instanceMethod ⟨"PointAnswersModel", "toFall", "(I)I"⟩ ∈ wT := tw 875 (by decide +kernel) rfl
theorem tw_876 : Cond.selects "PointAnswersModel" ⟨"PointAnswersModel", "toFall", "(I)I"⟩ ⟨"PointAnswersModel", "toFall", "(I)I"⟩ ∈ wT := tw 876 (by decide +kernel) rfl
theorem tw_877 : Cond.code ⟨"PointAnswersModel", "toFall", "(I)I"⟩ prog_9_method_49_code 2 (some .int) ∈ wT := tw 877 (by decide +kernel) rfl
theorem tw_878 : Cond.methodLink "PointAnswersModel" 158 ⟨"PointAnswersModel", "layCosts", "()V"⟩ ∈ wT := tw 878 (by decide +kernel) rfl
theorem tw_880 : Cond.instanceMethod ⟨"PointAnswersModel", "layCosts", "()V"⟩ ∈ wT := tw 880 (by decide +kernel) rfl
theorem tw_881 : Cond.code ⟨"PointAnswersModel", "layCosts", "()V"⟩ prog_9_method_48_code 7 none ∈ wT := tw 881 (by decide +kernel) rfl
theorem tw_882 : Cond.methodLink "PointAnswersLaw" 67 ⟨"PointAnswersModel", "toStand", "(I)I"⟩ ∈ wT := tw 882 (by decide +kernel) rfl
theorem tw_883 : Cond.instanceMethod ⟨"PointAnswersModel", "toStand", "(I)I"⟩ ∈ wT := tw 883 (by decide +kernel) rfl
theorem tw_884 : Cond.selects "PointAnswersModel" ⟨"PointAnswersModel", "toStand", "(I)I"⟩ ⟨"PointAnswersModel", "toStand", "(I)I"⟩ ∈ wT := tw 884 (by decide +kernel) rfl
theorem tw_885 : Cond.code ⟨"PointAnswersModel", "toStand", "(I)I"⟩ prog_9_method_50_code 2 (some .int) ∈ wT := tw 885 (by decide +kernel) rfl
theorem tw_886 : Cond.methodLink "PointAnswersLaw" 71 ⟨"PointAnswersModel", "bestAnswer", "(I)I"⟩ ∈ wT := tw 886 (by decide +kernel) rfl
theorem tw_887 : Cond.instanceMethod ⟨"PointAnswersModel", "bestAnswer", "(I)I"⟩ ∈ wT := tw 887 (by decide +kernel) rfl
theorem tw_888 : Cond.selects "PointAnswersModel" ⟨"PointAnswersModel", "bestAnswer", "(I)I"⟩ ⟨"PointAnswersModel", "bestAnswer", "(I)I"⟩ ∈ wT := tw 888 (by decide +kernel) rfl
theorem tw_889 : Cond.code ⟨"PointAnswersModel", "bestAnswer", "(I)I"⟩ prog_9_method_52_code 6 (some .int) ∈ wT := tw 889 (by decide +kernel) rfl
theorem tw_890 : Cond.methodLink "PointAnswersModel" 161 ⟨"PointAnswersModel", "changesBy", "(I)I"⟩ ∈ wT := tw 890 (by decide +kernel) rfl
theorem tw_892 : Cond.instanceMethod ⟨"PointAnswersModel", "changesBy", "(I)I"⟩ ∈ wT := tw 892 (by decide +kernel) rfl
theorem tw_893 : Cond.code ⟨"PointAnswersModel", "changesBy", "(I)I"⟩ prog_9_method_51_code 3 (some .int) ∈ wT := tw 893 (by decide +kernel) rfl
theorem tw_894 : Cond.methodLink "PointAnswersLaw" 76 ⟨"PointAnswersModel", "changesIn", "()I"⟩ ∈ wT := tw 894 (by decide +kernel) rfl
theorem tw_895 : Cond.instanceMethod ⟨"PointAnswersModel", "changesIn", "()I"⟩ ∈ wT := tw 895 (by decide +kernel) rfl
theorem tw_896 : Cond.selects "PointAnswersModel" ⟨"PointAnswersModel", "changesIn", "()I"⟩ ⟨"PointAnswersModel", "changesIn", "()I"⟩ ∈ wT := tw 896 (by decide +kernel) rfl
theorem tw_897 : Cond.code ⟨"PointAnswersModel", "changesIn", "()I"⟩ prog_9_method_53_code 5 (some .int) ∈ wT := tw 897 (by decide +kernel) rfl
theorem tw_898 : Cond.methodLink "PointAnswersLaw" 80 ⟨"PointAnswersModel", "leastPages", "()I"⟩ ∈ wT := tw 898 (by decide +kernel) rfl
theorem tw_899 : Cond.instanceMethod ⟨"PointAnswersModel", "leastPages", "()I"⟩ ∈ wT := tw 899 (by decide +kernel) rfl
theorem tw_900 : Cond.selects "PointAnswersModel" ⟨"PointAnswersModel", "leastPages", "()I"⟩ ⟨"PointAnswersModel", "leastPages", "()I"⟩ ∈ wT := tw 900 (by decide +kernel) rfl
theorem tw_901 : Cond.code ⟨"PointAnswersModel", "leastPages", "()I"⟩ prog_9_method_54_code 5 (some .int) ∈ wT := tw 901 (by decide +kernel) rfl
theorem tw_902 : Cond.methodLink "PointAnswersLaw" 87 ⟨"PointAnswersModel", "put", "(J)I"⟩ ∈ wT := tw 902 (by decide +kernel) rfl
theorem tw_903 : Cond.instanceMethod ⟨"PointAnswersModel", "put", "(J)I"⟩ ∈ wT := tw 903 (by decide +kernel) rfl
theorem tw_904 : Cond.selects "PointAnswersModel" ⟨"PointAnswersModel", "put", "(J)I"⟩ ⟨"PointAnswersModel", "put", "(J)I"⟩ ∈ wT := tw 904 (by decide +kernel) rfl
theorem tw_905 : Cond.code ⟨"PointAnswersModel", "put", "(J)I"⟩ prog_9_method_55_code 8 (some .int) ∈ wT := tw 905 (by decide +kernel) rfl
theorem tw_906 : Cond.constantLong "PointAnswersModel" 164 (255) ∈ wT := tw 906 (by decide +kernel) rfl
theorem tw_907 : Cond.methodLink "PointAnswersLaw" 91 ⟨"PointAnswersModel", "wipe", "()I"⟩ ∈ wT := tw 907 (by decide +kernel) rfl
theorem tw_908 : Cond.instanceMethod ⟨"PointAnswersModel", "wipe", "()I"⟩ ∈ wT := tw 908 (by decide +kernel) rfl
theorem tw_909 : Cond.selects "PointAnswersModel" ⟨"PointAnswersModel", "wipe", "()I"⟩ ⟨"PointAnswersModel", "wipe", "()I"⟩ ∈ wT := tw 909 (by decide +kernel) rfl
theorem tw_910 : Cond.code ⟨"PointAnswersModel", "wipe", "()I"⟩ prog_9_method_56_code 2 (some .int) ∈ wT := tw 910 (by decide +kernel) rfl
theorem tw_911 : Cond.methodLink "PointAnswersLaw" 95 ⟨"PointAnswersModel", "fault", "()I"⟩ ∈ wT := tw 911 (by decide +kernel) rfl
theorem tw_912 : Cond.instanceMethod ⟨"PointAnswersModel", "fault", "()I"⟩ ∈ wT := tw 912 (by decide +kernel) rfl
theorem tw_913 : Cond.selects "PointAnswersModel" ⟨"PointAnswersModel", "fault", "()I"⟩ ⟨"PointAnswersModel", "fault", "()I"⟩ ∈ wT := tw 913 (by decide +kernel) rfl
theorem tw_914 : Cond.code ⟨"PointAnswersModel", "fault", "()I"⟩ prog_9_method_64_code 1 (some .int) ∈ wT := tw 914 (by decide +kernel) rfl
theorem tw_915 : Cond.methodLink "PointAnswersModel" 194 ⟨"PointAnswersModel", "readPad", "()I"⟩ ∈ wT := tw 915 (by decide +kernel) rfl
theorem tw_917 : Cond.instanceMethod ⟨"PointAnswersModel", "readPad", "()I"⟩ ∈ wT := tw 917 (by decide +kernel) rfl
theorem tw_918 : Cond.code ⟨"PointAnswersModel", "readPad", "()I"⟩ prog_9_method_63_code 2 (some .int) ∈ wT := tw 918 (by decide +kernel) rfl
theorem tw_919 : Cond.methodLink "PointAnswersModel" 191 ⟨"PointAnswersModel", "readOrder", "()V"⟩ ∈ wT := tw 919 (by decide +kernel) rfl
theorem tw_921 : Cond.instanceMethod ⟨"PointAnswersModel", "readOrder", "()V"⟩ ∈ wT := tw 921 (by decide +kernel) rfl
theorem tw_922 : Cond.code ⟨"PointAnswersModel", "readOrder", "()V"⟩ prog_9_method_62_code 3 none ∈ wT := tw 922 (by decide +kernel) rfl
theorem tw_923 : Cond.methodLink "PointAnswersModel" 172 ⟨"PointAnswersModel", "letter", "()I"⟩ ∈ wT := tw 923 (by decide +kernel) rfl
theorem tw_925 : Cond.instanceMethod ⟨"PointAnswersModel", "letter", "()I"⟩ ∈ wT := tw 925 (by decide +kernel) rfl
theorem tw_926 : Cond.code ⟨"PointAnswersModel", "letter", "()I"⟩ prog_9_method_57_code 1 (some .int) ∈ wT := tw 926 (by decide +kernel) rfl
theorem tw_927 : Cond.methodLink "PointAnswersModel" 175 ⟨"PointAnswersModel", "wants", "(Z)V"⟩ ∈ wT := tw 927 (by decide +kernel) rfl
theorem tw_929 : Cond.instanceMethod ⟨"PointAnswersModel", "wants", "(Z)V"⟩ ∈ wT := tw 929 (by decide +kernel) rfl
theorem tw_930 : Cond.code ⟨"PointAnswersModel", "wants", "(Z)V"⟩ prog_9_method_58_code 2 none ∈ wT := tw 930 (by decide +kernel) rfl
theorem tw_931 : Cond.methodLink "PointAnswersModel" 179 ⟨"PointAnswersModel", "digit", "(II)I"⟩ ∈ wT := tw 931 (by decide +kernel) rfl
theorem tw_933 : Cond.instanceMethod ⟨"PointAnswersModel", "digit", "(II)I"⟩ ∈ wT := tw 933 (by decide +kernel) rfl
theorem tw_934 : Cond.code ⟨"PointAnswersModel", "digit", "(II)I"⟩ prog_9_method_59_code 4 (some .int) ∈ wT := tw 934 (by decide +kernel) rfl
theorem tw_935 : Cond.methodLink "PointAnswersModel" 185 ⟨"PointAnswersModel", "number", "()I"⟩ ∈ wT := tw 935 (by decide +kernel) rfl
theorem tw_937 : Cond.instanceMethod ⟨"PointAnswersModel", "number", "()I"⟩ ∈ wT := tw 937 (by decide +kernel) rfl
theorem tw_938 : Cond.code ⟨"PointAnswersModel", "number", "()I"⟩ prog_9_method_60_code 3 (some .int) ∈ wT := tw 938 (by decide +kernel) rfl
theorem tw_939 : Cond.methodLink "PointAnswersModel" 188 ⟨"PointAnswersModel", "cites", "()I"⟩ ∈ wT := tw 939 (by decide +kernel) rfl
theorem tw_941 : Cond.instanceMethod ⟨"PointAnswersModel", "cites", "()I"⟩ ∈ wT := tw 941 (by decide +kernel) rfl
theorem tw_942 : Cond.code ⟨"PointAnswersModel", "cites", "()I"⟩ prog_9_method_61_code 3 (some .int) ∈ wT := tw 942 (by decide +kernel) rfl
theorem tw_943 : Cond.methodLink "PointAnswersLaw" 99 ⟨"PointAnswersModel", "carryOut", "()I"⟩ ∈ wT := tw 943 (by decide +kernel) rfl
theorem tw_944 : Cond.instanceMethod ⟨"PointAnswersModel", "carryOut", "()I"⟩ ∈ wT := tw 944 (by decide +kernel) rfl
theorem tw_945 : Cond.selects "PointAnswersModel" ⟨"PointAnswersModel", "carryOut", "()I"⟩ ⟨"PointAnswersModel", "carryOut", "()I"⟩ ∈ wT := tw 945 (by decide +kernel) rfl
theorem tw_946 : Cond.code ⟨"PointAnswersModel", "carryOut", "()I"⟩ prog_9_method_67_code 2 (some .int) ∈ wT := tw 946 (by decide +kernel) rfl
theorem tw_947 : Cond.methodLink "PointAnswersModel" 200 ⟨"PointAnswersModel", "does", "(I)Z"⟩ ∈ wT := tw 947 (by decide +kernel) rfl
theorem tw_949 : Cond.instanceMethod ⟨"PointAnswersModel", "does", "(I)Z"⟩ ∈ wT := tw 949 (by decide +kernel) rfl
theorem tw_950 : Cond.code ⟨"PointAnswersModel", "does", "(I)Z"⟩ prog_9_method_66_code 5 (some .boolean) ∈ wT := tw 950 (by decide +kernel) rfl
theorem tw_951 : Cond.methodLink "PointAnswersModel" 197 ⟨"PointAnswersModel", "whyNot", "(IIII)I"⟩ ∈ wT := tw 951 (by decide +kernel) rfl
theorem tw_953 : Cond.instanceMethod ⟨"PointAnswersModel", "whyNot", "(IIII)I"⟩ ∈ wT := tw 953 (by decide +kernel) rfl
theorem tw_954 : Cond.code ⟨"PointAnswersModel", "whyNot", "(IIII)I"⟩ prog_9_method_65_code 5 (some .int) ∈ wT := tw 954 (by decide +kernel) rfl
theorem tw_955 : Cond.constantLong "PointAnswersLaw" 81 (4294967295) ∈ wT := tw 955 (by decide +kernel) rfl
