def gi {α : Type} : List α → Nat → Option α
  | [], _ => none
  | a :: _, 0 => some a
  | _ :: t, n + 1 => gi t n
theorem gi_mem {α : Type} {l : List α} {i : Nat} {a : α} (h : gi l i = some a) : a ∈ l := by
  induction l generalizing i with
  | nil => cases h
  | cons x t ih =>
    cases i with
    | zero => rw [show x = a from Option.some.inj h]; exact List.mem_cons_self
    | succ n => exact List.mem_cons_of_mem _ (ih h)
theorem dcd {cc : ByteArray} {ins : List (Nat × Instr × Nat)} (h : ins.all (fun q => decide (decode cc q.1 = .ok q.2)) = true) (i : Nat) (q : Nat × Instr × Nat) (hi : gi ins i = some q) : decode cc q.1 = .ok q.2 := by
  have h1 := List.all_eq_true.mp h q (gi_mem hi)
  exact of_decide_eq_true h1
def wT : List Cond := lw_tbl.filter goodWord
theorem tw {w : Cond} (i : Nat) (h : lw_tbl[i]? = some w) (hg : goodWord w = true) : w ∈ wT := List.mem_filter.mpr ⟨List.mem_of_getElem? h, hg⟩
theorem wT_tbl : ∀ w ∈ wT, w ∈ lw_tbl := fun _ h => (List.mem_filter.mp h).1
theorem gI {b1 : ByteArray} {y : MethodName} {n : Nat} {r : Option FieldType} (h : Cond.code y b1 n r ∈ wT) : GoodIn wT (Cond.code y b1 n r :: wT) := by
  intro w hw
  rcases List.mem_cons.mp hw with rfl | hw
  · exact ⟨h, good_of_word (List.mem_filter.mp h).2⟩
  · exact ⟨hw, good_of_word (List.mem_filter.mp hw).2⟩
def RX0 : String := "PointAnswers$Bundle"
def TX0 : u_T := fun k => match k with
  | 0 => ("PointAnswers$Bundle", "rows", "[LPointAnswers$Point;", true)
  | 1 => ("PointAnswers$Bundle", "size", "I", false)
  | 2 => ("PointAnswers$Bundle", "day", "I", false)
  | 3 => ("PointAnswers$Bundle", "overruled", "I", false)
  | 4 => ("PointAnswers$Bundle", "lapse", "I", false)
  | _ => ("PointAnswers$Bundle", "allowedPages", "I", false)
def tyX0 : Nat → FieldType := fun k => match k with
  | 0 => .array (.object "PointAnswers$Point")
  | 1 => .int
  | 2 => .int
  | 3 => .int
  | 4 => .int
  | _ => .int
theorem nmX0 : ∀ a, a < 6 → ∀ b, b < 6 → a ≠ b → (TX0 a).2.1 ≠ (TX0 b).2.1 := by decide +kernel
theorem tyX0_ok : ∀ k, k < 6 → parseFieldDescriptor (TX0 k).2.2.1 = some (tyX0 k) := by decide +kernel
theorem inX0 : ∀ w ∈ u_ws RX0 TX0 6, w ∈ wT := by decide +kernel
def RX1 : String := "PointAnswers$Costs"
def TX1 : u_T := fun k => match k with
  | 0 => ("PointAnswers$Costs", "fall", "[I", true)
  | _ => ("PointAnswers$Costs", "stand", "[I", true)
def tyX1 : Nat → FieldType := fun k => match k with
  | 0 => .array .int
  | _ => .array .int
theorem nmX1 : ∀ a, a < 2 → ∀ b, b < 2 → a ≠ b → (TX1 a).2.1 ≠ (TX1 b).2.1 := by decide +kernel
theorem tyX1_ok : ∀ k, k < 2 → parseFieldDescriptor (TX1 k).2.2.1 = some (tyX1 k) := by decide +kernel
theorem inX1 : ∀ w ∈ u_ws RX1 TX1 2, w ∈ wT := by decide +kernel
def RX2 : String := "PointAnswers$History"
def TX2 : u_T := fun k => match k with
  | 0 => ("PointAnswers$History", "rows", "[LPointAnswers$Bundle;", true)
  | _ => ("PointAnswers$History", "kept", "I", false)
def tyX2 : Nat → FieldType := fun k => match k with
  | 0 => .array (.object "PointAnswers$Bundle")
  | _ => .int
theorem nmX2 : ∀ a, a < 2 → ∀ b, b < 2 → a ≠ b → (TX2 a).2.1 ≠ (TX2 b).2.1 := by decide +kernel
theorem tyX2_ok : ∀ k, k < 2 → parseFieldDescriptor (TX2 k).2.2.1 = some (tyX2 k) := by decide +kernel
theorem inX2 : ∀ w ∈ u_ws RX2 TX2 2, w ∈ wT := by decide +kernel
def RX3 : String := "PointAnswers$Pad"
def TX3 : u_T := fun k => match k with
  | 0 => ("PointAnswers$Pad", "signs", "[C", true)
  | _ => ("PointAnswers$Pad", "length", "I", false)
def tyX3 : Nat → FieldType := fun k => match k with
  | 0 => .array .char
  | _ => .int
theorem nmX3 : ∀ a, a < 2 → ∀ b, b < 2 → a ≠ b → (TX3 a).2.1 ≠ (TX3 b).2.1 := by decide +kernel
theorem tyX3_ok : ∀ k, k < 2 → parseFieldDescriptor (TX3 k).2.2.1 = some (tyX3 k) := by decide +kernel
theorem inX3 : ∀ w ∈ u_ws RX3 TX3 2, w ∈ wT := by decide +kernel
def RX4 : String := "PointAnswers$Point"
def TX4 : u_T := fun k => match k with
  | 0 => ("PointAnswers$Point", "side", "I", false)
  | 1 => ("PointAnswers$Point", "pages", "I", false)
  | 2 => ("PointAnswers$Point", "cases", "I", false)
  | 3 => ("PointAnswers$Point", "target", "I", false)
  | 4 => ("PointAnswers$Point", "filed", "I", false)
  | 5 => ("PointAnswers$Point", "lastsFrom", "I", false)
  | _ => ("PointAnswers$Point", "withdrawn", "Z", false)
def tyX4 : Nat → FieldType := fun k => match k with
  | 0 => .int
  | 1 => .int
  | 2 => .int
  | 3 => .int
  | 4 => .int
  | 5 => .int
  | _ => .boolean
theorem nmX4 : ∀ a, a < 7 → ∀ b, b < 7 → a ≠ b → (TX4 a).2.1 ≠ (TX4 b).2.1 := by decide +kernel
theorem tyX4_ok : ∀ k, k < 7 → parseFieldDescriptor (TX4 k).2.2.1 = some (tyX4 k) := by decide +kernel
theorem inX4 : ∀ w ∈ u_ws RX4 TX4 7, w ∈ wT := by decide +kernel
def RX5 : String := "PointAnswers$Reader"
def TX5 : u_T := fun k => match k with
  | 0 => ("PointAnswers$Reader", "at", "I", false)
  | 1 => ("PointAnswers$Reader", "digit", "I", false)
  | 2 => ("PointAnswers$Reader", "kind", "C", false)
  | 3 => ("PointAnswers$Reader", "number", "I", false)
  | 4 => ("PointAnswers$Reader", "pages", "I", false)
  | _ => ("PointAnswers$Reader", "cases", "I", false)
def tyX5 : Nat → FieldType := fun k => match k with
  | 0 => .int
  | 1 => .int
  | 2 => .char
  | 3 => .int
  | 4 => .int
  | _ => .int
theorem nmX5 : ∀ a, a < 6 → ∀ b, b < 6 → a ≠ b → (TX5 a).2.1 ≠ (TX5 b).2.1 := by decide +kernel
theorem tyX5_ok : ∀ k, k < 6 → parseFieldDescriptor (TX5 k).2.2.1 = some (tyX5 k) := by decide +kernel
theorem inX5 : ∀ w ∈ u_ws RX5 TX5 6, w ∈ wT := by decide +kernel
def RX6 : String := "PointAnswers"
def TX6 : u_T := fun k => match k with
  | 0 => ("PointAnswers", "now", "LPointAnswers$Bundle;", true)
  | 1 => ("PointAnswers", "costs", "LPointAnswers$Costs;", true)
  | 2 => ("PointAnswers", "pad", "LPointAnswers$Pad;", true)
  | 3 => ("PointAnswers", "reader", "LPointAnswers$Reader;", true)
  | 4 => ("PointAnswers", "history", "LPointAnswers$History;", true)
  | 5 => ("PointAnswers", "slots", "[LPointAnswers$Bundle;", true)
  | _ => ("PointAnswers", "savedSlots", "I", false)
def tyX6 : Nat → FieldType := fun k => match k with
  | 0 => .object "PointAnswers$Bundle"
  | 1 => .object "PointAnswers$Costs"
  | 2 => .object "PointAnswers$Pad"
  | 3 => .object "PointAnswers$Reader"
  | 4 => .object "PointAnswers$History"
  | 5 => .array (.object "PointAnswers$Bundle")
  | _ => .int
theorem nmX6 : ∀ a, a < 7 → ∀ b, b < 7 → a ≠ b → (TX6 a).2.1 ≠ (TX6 b).2.1 := by decide +kernel
theorem tyX6_ok : ∀ k, k < 7 → parseFieldDescriptor (TX6 k).2.2.1 = some (tyX6 k) := by decide +kernel
theorem inX6 : ∀ w ∈ u_ws RX6 TX6 7, w ∈ wT := by decide +kernel
abbrev vwCl : List vw_C := [(RX0, TX0, 6), (RX1, TX1, 2), (RX2, TX2, 2), (RX3, TX3, 2), (RX4, TX4, 7), (RX5, TX5, 6), (RX6, TX6, 7)]
abbrev cX4_init : ByteArray := prog_6_method_1_code
def yX4_init : MethodName := ⟨"PointAnswers$Point", "<init>", "()V"⟩
abbrev wsX4_init : List Cond := .code yX4_init cX4_init 1 none :: wT
def iX4_init : List (Nat × Instr × Nat) := [(0, .aload_n 0, 1), (1, .invokespecial 1, 3), (4, .return_, 1)]
theorem dX4_init : iX4_init.all (fun q => decide (decode cX4_init q.1 = .ok q.2)) = true := by decide +kernel
abbrev cX0_init : ByteArray := prog_2_method_1_code
def yX0_init : MethodName := ⟨"PointAnswers$Bundle", "<init>", "()V"⟩
abbrev wsX0_init : List Cond := .code yX0_init cX0_init 2 none :: wT
def iX0_init : List (Nat × Instr × Nat) := [(0, .aload_n 0, 1), (1, .invokespecial 3, 3), (4, .aload_n 0, 1), (5, .bipush 24, 2), (7, .anewarray 9, 3), (10, .putfield 11, 3), (13, .aload_n 0, 1), (14, .bipush 14, 2), (16, .putfield 17, 3), (19, .aload_n 0, 1), (20, .bipush 30, 2), (22, .putfield 21, 3), (25, .iconst 0, 1), (26, .istore_n 1, 1), (27, .iload_n 1, 1), (28, .aload_n 0, 1), (29, .getfield 11, 3), (32, .arraylength, 1), (33, .if_icmp .ge 22, 3), (36, .aload_n 0, 1), (37, .getfield 11, 3), (40, .iload_n 1, 1), (41, .new 9, 3), (44, .dup, 1), (45, .invokespecial 24, 3), (48, .aastore, 1), (49, .iinc 1 1, 3), (52, .goto (-25), 3), (55, .return_, 1)]
theorem dX0_init : iX0_init.all (fun q => decide (decode cX0_init q.1 = .ok q.2)) = true := by decide +kernel
abbrev cX0_find : ByteArray := prog_2_method_3_code
def yX0_find : MethodName := ⟨"PointAnswers$Bundle", "find", "(I)LPointAnswers$Point;"⟩
abbrev wsX0_find : List Cond := .code yX0_find cX0_find 2 (some (.object "PointAnswers$Point")) :: wT
def iX0_find : List (Nat × Instr × Nat) := [(0, .iload_n 1, 1), (1, .ifCond .lt 29, 3), (4, .iload_n 1, 1), (5, .aload_n 0, 1), (6, .getfield 25, 3), (9, .if_icmp .ge 21, 3), (12, .iload_n 1, 1), (13, .aload_n 0, 1), (14, .getfield 11, 3), (17, .arraylength, 1), (18, .if_icmp .ge 12, 3), (21, .aload_n 0, 1), (22, .getfield 11, 3), (25, .iload_n 1, 1), (26, .aaload, 1), (27, .goto 4, 3), (30, .aconst_null, 1), (31, .areturn, 1)]
theorem dX0_find : iX0_find.all (fun q => decide (decode cX0_find q.1 = .ok q.2)) = true := by decide +kernel
abbrev cX4_become : ByteArray := prog_6_method_2_code
def yX4_become : MethodName := ⟨"PointAnswers$Point", "become", "(LPointAnswers$Point;)V"⟩
abbrev wsX4_become : List Cond := .code yX4_become cX4_become 2 none :: wT
def iX4_become : List (Nat × Instr × Nat) := [(0, .aload_n 0, 1), (1, .aload_n 1, 1), (2, .getfield 7, 3), (5, .putfield 7, 3), (8, .aload_n 0, 1), (9, .aload_n 1, 1), (10, .getfield 13, 3), (13, .putfield 13, 3), (16, .aload_n 0, 1), (17, .aload_n 1, 1), (18, .getfield 16, 3), (21, .putfield 16, 3), (24, .aload_n 0, 1), (25, .aload_n 1, 1), (26, .getfield 19, 3), (29, .putfield 19, 3), (32, .aload_n 0, 1), (33, .aload_n 1, 1), (34, .getfield 22, 3), (37, .putfield 22, 3), (40, .aload_n 0, 1), (41, .aload_n 1, 1), (42, .getfield 25, 3), (45, .putfield 25, 3), (48, .aload_n 0, 1), (49, .aload_n 1, 1), (50, .getfield 28, 3), (53, .putfield 28, 3), (56, .return_, 1)]
theorem dX4_become : iX4_become.all (fun q => decide (decode cX4_become q.1 = .ok q.2)) = true := by decide +kernel
abbrev cX0_become : ByteArray := prog_2_method_2_code
def yX0_become : MethodName := ⟨"PointAnswers$Bundle", "become", "(LPointAnswers$Bundle;)V"⟩
abbrev wsX0_become : List Cond := .code yX0_become cX0_become 5 none :: wT
def iX0_become : List (Nat × Instr × Nat) := [(0, .aload_n 0, 1), (1, .aload_n 1, 1), (2, .getfield 25, 3), (5, .putfield 25, 3), (8, .aload_n 0, 1), (9, .aload_n 1, 1), (10, .getfield 28, 3), (13, .putfield 28, 3), (16, .aload_n 0, 1), (17, .aload_n 1, 1), (18, .getfield 31, 3), (21, .putfield 31, 3), (24, .aload_n 0, 1), (25, .aload_n 1, 1), (26, .getfield 17, 3), (29, .putfield 17, 3), (32, .aload_n 0, 1), (33, .aload_n 1, 1), (34, .getfield 21, 3), (37, .putfield 21, 3), (40, .iconst 0, 1), (41, .istore_n 2, 1), (42, .iload_n 2, 1), (43, .aload_n 0, 1), (44, .getfield 11, 3), (47, .arraylength, 1), (48, .if_icmp .ge 46, 3), (51, .iload_n 2, 1), (52, .aload_n 0, 1), (53, .getfield 25, 3), (56, .if_icmp .ge 38, 3), (59, .aload_n 0, 1), (60, .getfield 11, 3), (63, .iload_n 2, 1), (64, .aaload, 1), (65, .astore_n 3, 1), (66, .aload_n 1, 1), (67, .iload_n 2, 1), (68, .invokevirtual 34, 3), (71, .astore 4, 2), (73, .aload_n 3, 1), (74, .ifnull 14, 3), (77, .aload 4, 2), (79, .ifnull 9, 3), (82, .aload_n 3, 1), (83, .aload 4, 2), (85, .invokevirtual 38, 3), (88, .iinc 2 1, 3), (91, .goto (-49), 3), (94, .return_, 1)]
theorem dX0_become : iX0_become.all (fun q => decide (decode cX0_become q.1 = .ok q.2)) = true := by decide +kernel
abbrev cX0_freeRow : ByteArray := prog_2_method_4_code
def yX0_freeRow : MethodName := ⟨"PointAnswers$Bundle", "freeRow", "()LPointAnswers$Point;"⟩
abbrev wsX0_freeRow : List Cond := .code yX0_freeRow cX0_freeRow 1 (some (.object "PointAnswers$Point")) :: wT
def iX0_freeRow : List (Nat × Instr × Nat) := [(0, .aload_n 0, 1), (1, .getfield 25, 3), (4, .ifCond .lt 27, 3), (7, .aload_n 0, 1), (8, .getfield 25, 3), (11, .aload_n 0, 1), (12, .getfield 11, 3), (15, .arraylength, 1), (16, .if_icmp .ge 15, 3), (19, .aload_n 0, 1), (20, .getfield 11, 3), (23, .aload_n 0, 1), (24, .getfield 25, 3), (27, .aaload, 1), (28, .goto 4, 3), (31, .aconst_null, 1), (32, .areturn, 1)]
theorem dX0_freeRow : iX0_freeRow.all (fun q => decide (decode cX0_freeRow q.1 = .ok q.2)) = true := by decide +kernel
abbrev cX0_adjust : ByteArray := prog_2_method_5_code
def yX0_adjust : MethodName := ⟨"PointAnswers$Bundle", "adjust", "(II)I"⟩
abbrev wsX0_adjust : List Cond := .code yX0_adjust cX0_adjust 4 (some .int) :: wT
def iX0_adjust : List (Nat × Instr × Nat) := [(0, .bipush (-2), 2), (2, .istore_n 3, 1), (3, .iload_n 1, 1), (4, .ifCond .ne 24, 3), (7, .iload_n 2, 1), (8, .iconst 1, 1), (9, .if_icmp .lt 19, 3), (12, .iload_n 2, 1), (13, .bipush 60, 2), (15, .if_icmp .gt 13, 3), (18, .aload_n 0, 1), (19, .getfield 17, 3), (22, .istore_n 3, 1), (23, .aload_n 0, 1), (24, .iload_n 2, 1), (25, .putfield 17, 3), (28, .iload_n 1, 1), (29, .iconst 1, 1), (30, .if_icmp .ne 24, 3), (33, .iload_n 2, 1), (34, .iconst 1, 1), (35, .if_icmp .lt 19, 3), (38, .iload_n 2, 1), (39, .bipush 99, 2), (41, .if_icmp .gt 13, 3), (44, .aload_n 0, 1), (45, .getfield 21, 3), (48, .istore_n 3, 1), (49, .aload_n 0, 1), (50, .iload_n 2, 1), (51, .putfield 21, 3), (54, .iload_n 3, 1), (55, .ireturn, 1)]
theorem dX0_adjust : iX0_adjust.all (fun q => decide (decode cX0_adjust q.1 = .ok q.2)) = true := by decide +kernel
abbrev cX0_canBeFiled : ByteArray := prog_2_method_8_code
def yX0_canBeFiled : MethodName := ⟨"PointAnswers$Bundle", "canBeFiled", "(II)Z"⟩
abbrev wsX0_canBeFiled : List Cond := .code yX0_canBeFiled cX0_canBeFiled 2 (some .boolean) :: wT
def iX0_canBeFiled : List (Nat × Instr × Nat) := [(0, .iload_n 0, 1), (1, .iconst 1, 1), (2, .if_icmp .lt 24, 3), (5, .iload_n 0, 1), (6, .bipush 9, 2), (8, .if_icmp .gt 18, 3), (11, .iload_n 1, 1), (12, .ifCond .lt 14, 3), (15, .iload_n 1, 1), (16, .sipush 1023, 3), (19, .if_icmp .gt 7, 3), (22, .iconst 1, 1), (23, .goto 4, 3), (26, .iconst 0, 1), (27, .ireturn, 1)]
theorem dX0_canBeFiled : iX0_canBeFiled.all (fun q => decide (decode cX0_canBeFiled q.1 = .ok q.2)) = true := by decide +kernel
abbrev cX0_file : ByteArray := prog_2_method_9_code
def yX0_file : MethodName := ⟨"PointAnswers$Bundle", "file", "(IIII)I"⟩
abbrev wsX0_file : List Cond := .code yX0_file cX0_file 6 (some .int) :: wT
def iX0_file : List (Nat × Instr × Nat) := [(0, .aload_n 0, 1), (1, .invokevirtual 50, 3), (4, .astore 5, 2), (6, .aload 5, 2), (8, .ifnonnull 6, 3), (11, .bipush (-4), 2), (13, .ireturn, 1), (14, .aload 5, 2), (16, .iload_n 1, 1), (17, .putfield 58, 3), (20, .aload 5, 2), (22, .iload_n 2, 1), (23, .putfield 61, 3), (26, .aload 5, 2), (28, .iload_n 3, 1), (29, .putfield 64, 3), (32, .aload 5, 2), (34, .iload 4, 2), (36, .putfield 67, 3), (39, .aload 5, 2), (41, .aload_n 0, 1), (42, .getfield 28, 3), (45, .putfield 70, 3), (48, .aload 5, 2), (50, .aload_n 0, 1), (51, .getfield 28, 3), (54, .putfield 73, 3), (57, .aload 5, 2), (59, .iconst 0, 1), (60, .putfield 54, 3), (63, .aload_n 0, 1), (64, .dup, 1), (65, .getfield 25, 3), (68, .iconst 1, 1), (69, .iadd, 1), (70, .putfield 25, 3), (73, .aload_n 0, 1), (74, .getfield 25, 3), (77, .iconst 1, 1), (78, .isub, 1), (79, .ireturn, 1)]
theorem dX0_file : iX0_file.all (fun q => decide (decode cX0_file q.1 = .ok q.2)) = true := by decide +kernel
abbrev cX0_fileClaim : ByteArray := prog_2_method_6_code
def yX0_fileClaim : MethodName := ⟨"PointAnswers$Bundle", "fileClaim", "(III)I"⟩
abbrev wsX0_fileClaim : List Cond := .code yX0_fileClaim cX0_fileClaim 4 (some .int) :: wT
def iX0_fileClaim : List (Nat × Instr × Nat) := [(0, .iload_n 1, 1), (1, .ifCond .lt 16, 3), (4, .iload_n 1, 1), (5, .iconst 1, 1), (6, .if_icmp .gt 11, 3), (9, .iload_n 2, 1), (10, .iload_n 3, 1), (11, .invokestatic 42, 3), (14, .ifCond .ne 6, 3), (17, .bipush (-2), 2), (19, .ireturn, 1), (20, .aload_n 0, 1), (21, .iload_n 1, 1), (22, .iload_n 2, 1), (23, .iload_n 3, 1), (24, .bipush (-6), 2), (26, .invokevirtual 46, 3), (29, .ireturn, 1)]
theorem dX0_fileClaim : iX0_fileClaim.all (fun q => decide (decode cX0_fileClaim q.1 = .ok q.2)) = true := by decide +kernel
abbrev cX0_fileAnswer : ByteArray := prog_2_method_7_code
def yX0_fileAnswer : MethodName := ⟨"PointAnswers$Bundle", "fileAnswer", "(III)I"⟩
abbrev wsX0_fileAnswer : List Cond := .code yX0_fileAnswer cX0_fileAnswer 5 (some .int) :: wT
def iX0_fileAnswer : List (Nat × Instr × Nat) := [(0, .aload_n 0, 1), (1, .iload_n 1, 1), (2, .invokevirtual 34, 3), (5, .astore 4, 2), (7, .aload 4, 2), (9, .ifnonnull 5, 3), (12, .iconst (-1), 1), (13, .ireturn, 1), (14, .iload_n 2, 1), (15, .iload_n 3, 1), (16, .invokestatic 42, 3), (19, .ifCond .ne 6, 3), (22, .bipush (-2), 2), (24, .ireturn, 1), (25, .aload_n 0, 1), (26, .invokevirtual 50, 3), (29, .ifnonnull 6, 3), (32, .bipush (-4), 2), (34, .ireturn, 1), (35, .aload 4, 2), (37, .getfield 54, 3), (40, .ifCond .eq 6, 3), (43, .bipush (-5), 2), (45, .ireturn, 1), (46, .aload_n 0, 1), (47, .iconst 1, 1), (48, .aload 4, 2), (50, .getfield 58, 3), (53, .isub, 1), (54, .iload_n 2, 1), (55, .iload_n 3, 1), (56, .iload_n 1, 1), (57, .invokevirtual 46, 3), (60, .ireturn, 1)]
theorem dX0_fileAnswer : iX0_fileAnswer.all (fun q => decide (decode cX0_fileAnswer q.1 = .ok q.2)) = true := by decide +kernel
abbrev cX0_withdrawn : ByteArray := prog_2_method_20_code
def yX0_withdrawn : MethodName := ⟨"PointAnswers$Bundle", "withdrawn", "()I"⟩
abbrev wsX0_withdrawn : List Cond := .code yX0_withdrawn cX0_withdrawn 4 (some .int) :: wT
def iX0_withdrawn : List (Nat × Instr × Nat) := [(0, .iconst 0, 1), (1, .istore_n 1, 1), (2, .iconst 0, 1), (3, .istore_n 2, 1), (4, .iload_n 2, 1), (5, .aload_n 0, 1), (6, .getfield 25, 3), (9, .if_icmp .ge 32, 3), (12, .aload_n 0, 1), (13, .iload_n 2, 1), (14, .invokevirtual 34, 3), (17, .astore_n 3, 1), (18, .aload_n 3, 1), (19, .ifnull 16, 3), (22, .aload_n 3, 1), (23, .getfield 54, 3), (26, .ifCond .eq 9, 3), (29, .iload_n 1, 1), (30, .iconst 1, 1), (31, .iload_n 2, 1), (32, .ishl, 1), (33, .ior, 1), (34, .istore_n 1, 1), (35, .iinc 2 1, 3), (38, .goto (-34), 3), (41, .iload_n 1, 1), (42, .ireturn, 1)]
theorem dX0_withdrawn : iX0_withdrawn.all (fun q => decide (decode cX0_withdrawn q.1 = .ok q.2)) = true := by decide +kernel
abbrev cX0_struck : ByteArray := prog_2_method_21_code
def yX0_struck : MethodName := ⟨"PointAnswers$Bundle", "struck", "()I"⟩
abbrev wsX0_struck : List Cond := .code yX0_struck cX0_struck 6 (some .int) :: wT
def iX0_struck : List (Nat × Instr × Nat) := [(0, .iconst 0, 1), (1, .istore_n 1, 1), (2, .iconst 0, 1), (3, .istore_n 2, 1), (4, .iload_n 2, 1), (5, .iconst 1, 1), (6, .if_icmp .gt 94, 3), (9, .iconst 0, 1), (10, .istore_n 3, 1), (11, .iconst 0, 1), (12, .istore 4, 2), (14, .iload 4, 2), (16, .aload_n 0, 1), (17, .getfield 25, 3), (20, .if_icmp .ge 74, 3), (23, .aload_n 0, 1), (24, .iload 4, 2), (26, .invokevirtual 34, 3), (29, .astore 5, 2), (31, .aload 5, 2), (33, .ifnull 55, 3), (36, .aload 5, 2), (38, .getfield 58, 3), (41, .iload_n 2, 1), (42, .if_icmp .ne 46, 3), (45, .aload 5, 2), (47, .getfield 54, 3), (50, .ifCond .eq 6, 3), (53, .goto 35, 3), (56, .iload_n 3, 1), (57, .aload 5, 2), (59, .getfield 61, 3), (62, .iadd, 1), (63, .aload_n 0, 1), (64, .getfield 21, 3), (67, .if_icmp .le 13, 3), (70, .iload_n 1, 1), (71, .iconst 1, 1), (72, .iload 4, 2), (74, .ishl, 1), (75, .ior, 1), (76, .istore_n 1, 1), (77, .goto 11, 3), (80, .iload_n 3, 1), (81, .aload 5, 2), (83, .getfield 61, 3), (86, .iadd, 1), (87, .istore_n 3, 1), (88, .iinc 4 1, 3), (91, .goto (-77), 3), (94, .iinc 2 1, 3), (97, .goto (-93), 3), (100, .iload_n 1, 1), (101, .ireturn, 1)]
theorem dX0_struck : iX0_struck.all (fun q => decide (decode cX0_struck q.1 = .ok q.2)) = true := by decide +kernel
abbrev cX0_lapsedOn : ByteArray := prog_2_method_22_code
def yX0_lapsedOn : MethodName := ⟨"PointAnswers$Bundle", "lapsedOn", "(I)I"⟩
abbrev wsX0_lapsedOn : List Cond := .code yX0_lapsedOn cX0_lapsedOn 5 (some .int) :: wT
def iX0_lapsedOn : List (Nat × Instr × Nat) := [(0, .iconst 0, 1), (1, .istore_n 2, 1), (2, .iconst 0, 1), (3, .istore_n 3, 1), (4, .iload_n 3, 1), (5, .aload_n 0, 1), (6, .getfield 25, 3), (9, .if_icmp .ge 51, 3), (12, .aload_n 0, 1), (13, .iload_n 3, 1), (14, .invokevirtual 34, 3), (17, .astore 4, 2), (19, .aload 4, 2), (21, .ifnull 33, 3), (24, .aload 4, 2), (26, .getfield 67, 3), (29, .bipush (-6), 2), (31, .if_icmp .eq 23, 3), (34, .iload_n 1, 1), (35, .aload 4, 2), (37, .getfield 73, 3), (40, .isub, 1), (41, .aload_n 0, 1), (42, .getfield 17, 3), (45, .if_icmp .le 9, 3), (48, .iload_n 2, 1), (49, .iconst 1, 1), (50, .iload_n 3, 1), (51, .ishl, 1), (52, .ior, 1), (53, .istore_n 2, 1), (54, .iinc 3 1, 3), (57, .goto (-53), 3), (60, .iload_n 2, 1), (61, .ireturn, 1)]
theorem dX0_lapsedOn : iX0_lapsedOn.all (fun q => decide (decode cX0_lapsedOn q.1 = .ok q.2)) = true := by decide +kernel
abbrev cX0_baseless : ByteArray := prog_2_method_23_code
def yX0_baseless : MethodName := ⟨"PointAnswers$Bundle", "baseless", "()I"⟩
abbrev wsX0_baseless : List Cond := .code yX0_baseless cX0_baseless 4 (some .int) :: wT
def iX0_baseless : List (Nat × Instr × Nat) := [(0, .iconst 0, 1), (1, .istore_n 1, 1), (2, .iconst 0, 1), (3, .istore_n 2, 1), (4, .iload_n 2, 1), (5, .aload_n 0, 1), (6, .getfield 25, 3), (9, .if_icmp .ge 46, 3), (12, .aload_n 0, 1), (13, .iload_n 2, 1), (14, .invokevirtual 34, 3), (17, .astore_n 3, 1), (18, .aload_n 3, 1), (19, .ifnull 30, 3), (22, .aload_n 3, 1), (23, .getfield 64, 3), (26, .ifCond .eq 23, 3), (29, .aload_n 3, 1), (30, .getfield 64, 3), (33, .aload_n 0, 1), (34, .getfield 31, 3), (37, .iconst (-1), 1), (38, .ixor, 1), (39, .iand, 1), (40, .ifCond .ne 9, 3), (43, .iload_n 1, 1), (44, .iconst 1, 1), (45, .iload_n 2, 1), (46, .ishl, 1), (47, .ior, 1), (48, .istore_n 1, 1), (49, .iinc 2 1, 3), (52, .goto (-48), 3), (55, .iload_n 1, 1), (56, .ireturn, 1)]
theorem dX0_baseless : iX0_baseless.all (fun q => decide (decode cX0_baseless q.1 = .ok q.2)) = true := by decide +kernel
abbrev cX0_out : ByteArray := prog_2_method_24_code
def yX0_out : MethodName := ⟨"PointAnswers$Bundle", "out", "()I"⟩
abbrev wsX0_out : List Cond := .code yX0_out cX0_out 1 (some .int) :: wT
def iX0_out : List (Nat × Instr × Nat) := [(0, .aload_n 0, 1), (1, .invokevirtual 98, 3), (4, .aload_n 0, 1), (5, .invokevirtual 100, 3), (8, .ior, 1), (9, .aload_n 0, 1), (10, .aload_n 0, 1), (11, .getfield 28, 3), (14, .invokevirtual 103, 3), (17, .ior, 1), (18, .aload_n 0, 1), (19, .invokevirtual 106, 3), (22, .ior, 1), (23, .ireturn, 1)]
theorem dX0_out : iX0_out.all (fun q => decide (decode cX0_out q.1 = .ok q.2)) = true := by decide +kernel
abbrev cX6_has : ByteArray := prog_1_method_27_code
def yX6_has : MethodName := ⟨"PointAnswers", "has", "(II)Z"⟩
abbrev wsX6_has : List Cond := .code yX6_has cX6_has 2 (some .boolean) :: wT
def iX6_has : List (Nat × Instr × Nat) := [(0, .iload_n 0, 1), (1, .iload_n 1, 1), (2, .iushr, 1), (3, .iconst 1, 1), (4, .iand, 1), (5, .iconst 1, 1), (6, .if_icmp .ne 7, 3), (9, .iconst 1, 1), (10, .goto 4, 3), (13, .iconst 0, 1), (14, .ireturn, 1)]
theorem dX6_has : iX6_has.all (fun q => decide (decode cX6_has q.1 = .ok q.2)) = true := by decide +kernel
abbrev cX0_targetOf : ByteArray := prog_2_method_18_code
def yX0_targetOf : MethodName := ⟨"PointAnswers$Bundle", "targetOf", "(I)I"⟩
abbrev wsX0_targetOf : List Cond := .code yX0_targetOf cX0_targetOf 3 (some .int) :: wT
def iX0_targetOf : List (Nat × Instr × Nat) := [(0, .aload_n 0, 1), (1, .iload_n 1, 1), (2, .invokevirtual 34, 3), (5, .astore_n 2, 1), (6, .aload_n 2, 1), (7, .ifnull 12, 3), (10, .aload_n 2, 1), (11, .getfield 67, 3), (14, .bipush (-6), 2), (16, .if_icmp .ne 7, 3), (19, .iconst 0, 1), (20, .goto 9, 3), (23, .iconst 1, 1), (24, .aload_n 2, 1), (25, .getfield 67, 3), (28, .ishl, 1), (29, .ireturn, 1)]
theorem dX0_targetOf : iX0_targetOf.all (fun q => decide (decode cX0_targetOf q.1 = .ok q.2)) = true := by decide +kernel
abbrev cX0_standingIf : ByteArray := prog_2_method_27_code
def yX0_standingIf : MethodName := ⟨"PointAnswers$Bundle", "standingIf", "(II)I"⟩
abbrev wsX0_standingIf : List Cond := .code yX0_standingIf cX0_standingIf 6 (some .int) :: wT
def iX0_standingIf : List (Nat × Instr × Nat) := [(0, .iload_n 2, 1), (1, .istore_n 3, 1), (2, .iconst 0, 1), (3, .istore 4, 2), (5, .aload_n 0, 1), (6, .getfield 25, 3), (9, .iconst 1, 1), (10, .isub, 1), (11, .istore 5, 2), (13, .iload 5, 2), (15, .ifCond .lt 38, 3), (18, .iload_n 1, 1), (19, .iload_n 3, 1), (20, .ior, 1), (21, .iload 5, 2), (23, .invokestatic 86, 3), (26, .ifCond .ne 21, 3), (29, .iload 4, 2), (31, .iconst 1, 1), (32, .iload 5, 2), (34, .ishl, 1), (35, .ior, 1), (36, .istore 4, 2), (38, .iload_n 3, 1), (39, .aload_n 0, 1), (40, .iload 5, 2), (42, .invokevirtual 95, 3), (45, .ior, 1), (46, .istore_n 3, 1), (47, .iinc 5 (-1), 3), (50, .goto (-37), 3), (53, .iload 4, 2), (55, .ireturn, 1)]
theorem dX0_standingIf : iX0_standingIf.all (fun q => decide (decode cX0_standingIf q.1 = .ok q.2)) = true := by decide +kernel
abbrev cX0_standing : ByteArray := prog_2_method_25_code
def yX0_standing : MethodName := ⟨"PointAnswers$Bundle", "standing", "()I"⟩
abbrev wsX0_standing : List Cond := .code yX0_standing cX0_standing 1 (some .int) :: wT
def iX0_standing : List (Nat × Instr × Nat) := [(0, .aload_n 0, 1), (1, .aload_n 0, 1), (2, .invokevirtual 109, 3), (5, .iconst 0, 1), (6, .invokevirtual 112, 3), (9, .ireturn, 1)]
theorem dX0_standing : iX0_standing.all (fun q => decide (decode cX0_standing q.1 = .ok q.2)) = true := by decide +kernel
abbrev cJ6_bitCount_0f7a4 : ByteArray := prog_10_method_49_code
def yJ6_bitCount_0f7a4 : MethodName := ⟨"java/lang/Integer", "bitCount", "(I)I"⟩
abbrev wsJ6_bitCount_0f7a4 : List Cond := .code yJ6_bitCount_0f7a4 cJ6_bitCount_0f7a4 1 (some .int) :: wT
def iJ6_bitCount_0f7a4 : List (Nat × Instr × Nat) := [(0, .iload_n 0, 1), (1, .iload_n 0, 1), (2, .iconst 1, 1), (3, .iushr, 1), (4, .ldc_w 265, 3), (7, .iand, 1), (8, .isub, 1), (9, .istore_n 0, 1), (10, .iload_n 0, 1), (11, .ldc_w 266, 3), (14, .iand, 1), (15, .iload_n 0, 1), (16, .iconst 2, 1), (17, .iushr, 1), (18, .ldc_w 266, 3), (21, .iand, 1), (22, .iadd, 1), (23, .istore_n 0, 1), (24, .iload_n 0, 1), (25, .iload_n 0, 1), (26, .iconst 4, 1), (27, .iushr, 1), (28, .iadd, 1), (29, .ldc_w 267, 3), (32, .iand, 1), (33, .istore_n 0, 1), (34, .iload_n 0, 1), (35, .iload_n 0, 1), (36, .bipush 8, 2), (38, .iushr, 1), (39, .iadd, 1), (40, .istore_n 0, 1), (41, .iload_n 0, 1), (42, .iload_n 0, 1), (43, .bipush 16, 2), (45, .iushr, 1), (46, .iadd, 1), (47, .istore_n 0, 1), (48, .iload_n 0, 1), (49, .bipush 63, 2), (51, .iand, 1), (52, .ireturn, 1)]
theorem dJ6_bitCount_0f7a4 : iJ6_bitCount_0f7a4.all (fun q => decide (decode cJ6_bitCount_0f7a4 q.1 = .ok q.2)) = true := by decide +kernel
abbrev cX0_takeBack : ByteArray := prog_2_method_10_code
def yX0_takeBack : MethodName := ⟨"PointAnswers$Bundle", "takeBack", "(I)I"⟩
abbrev wsX0_takeBack : List Cond := .code yX0_takeBack cX0_takeBack 3 (some .int) :: wT
def iX0_takeBack : List (Nat × Instr × Nat) := [(0, .aload_n 0, 1), (1, .iload_n 1, 1), (2, .invokevirtual 34, 3), (5, .astore_n 2, 1), (6, .aload_n 2, 1), (7, .ifnonnull 5, 3), (10, .iconst (-1), 1), (11, .ireturn, 1), (12, .aload_n 2, 1), (13, .getfield 54, 3), (16, .ifCond .eq 6, 3), (19, .bipush (-5), 2), (21, .ireturn, 1), (22, .aload_n 2, 1), (23, .iconst 1, 1), (24, .putfield 54, 3), (27, .aload_n 0, 1), (28, .invokevirtual 76, 3), (31, .invokestatic 80, 3), (34, .ireturn, 1)]
theorem dX0_takeBack : iX0_takeBack.all (fun q => decide (decode cX0_takeBack q.1 = .ok q.2)) = true := by decide +kernel
abbrev cX0_prolong : ByteArray := prog_2_method_11_code
def yX0_prolong : MethodName := ⟨"PointAnswers$Bundle", "prolong", "(I)I"⟩
abbrev wsX0_prolong : List Cond := .code yX0_prolong cX0_prolong 4 (some .int) :: wT
def iX0_prolong : List (Nat × Instr × Nat) := [(0, .aload_n 0, 1), (1, .iload_n 1, 1), (2, .invokevirtual 34, 3), (5, .astore_n 2, 1), (6, .aload_n 2, 1), (7, .ifnonnull 5, 3), (10, .iconst (-1), 1), (11, .ireturn, 1), (12, .aload_n 2, 1), (13, .getfield 67, 3), (16, .bipush (-6), 2), (18, .if_icmp .eq 10, 3), (21, .aload_n 2, 1), (22, .getfield 54, 3), (25, .ifCond .eq 6, 3), (28, .bipush (-5), 2), (30, .ireturn, 1), (31, .aload_n 0, 1), (32, .getfield 28, 3), (35, .aload_n 2, 1), (36, .getfield 73, 3), (39, .isub, 1), (40, .istore_n 3, 1), (41, .aload_n 2, 1), (42, .aload_n 0, 1), (43, .getfield 28, 3), (46, .putfield 73, 3), (49, .iload_n 3, 1), (50, .ireturn, 1)]
theorem dX0_prolong : iX0_prolong.all (fun q => decide (decode cX0_prolong q.1 = .ok q.2)) = true := by decide +kernel
abbrev cX0_turnCase : ByteArray := prog_2_method_12_code
def yX0_turnCase : MethodName := ⟨"PointAnswers$Bundle", "turnCase", "(I)I"⟩
abbrev wsX0_turnCase : List Cond := .code yX0_turnCase cX0_turnCase 2 (some .int) :: wT
def iX0_turnCase : List (Nat × Instr × Nat) := [(0, .iload_n 1, 1), (1, .ifCond .lt 9, 3), (4, .iload_n 1, 1), (5, .bipush 10, 2), (7, .if_icmp .lt 5, 3), (10, .iconst (-1), 1), (11, .ireturn, 1), (12, .aload_n 0, 1), (13, .dup, 1), (14, .getfield 31, 3), (17, .iconst 1, 1), (18, .iload_n 1, 1), (19, .ishl, 1), (20, .ixor, 1), (21, .putfield 31, 3), (24, .aload_n 0, 1), (25, .getfield 31, 3), (28, .iload_n 1, 1), (29, .invokestatic 86, 3), (32, .ifCond .eq 7, 3), (35, .iconst 1, 1), (36, .goto 4, 3), (39, .iconst 0, 1), (40, .ireturn, 1)]
theorem dX0_turnCase : iX0_turnCase.all (fun q => decide (decode cX0_turnCase q.1 = .ok q.2)) = true := by decide +kernel
abbrev cX0_moveOn : ByteArray := prog_2_method_13_code
def yX0_moveOn : MethodName := ⟨"PointAnswers$Bundle", "moveOn", "(I)I"⟩
abbrev wsX0_moveOn : List Cond := .code yX0_moveOn cX0_moveOn 2 (some .int) :: wT
def iX0_moveOn : List (Nat × Instr × Nat) := [(0, .iload_n 1, 1), (1, .iconst 1, 1), (2, .if_icmp .lt 9, 3), (5, .iload_n 1, 1), (6, .bipush 99, 2), (8, .if_icmp .le 6, 3), (11, .bipush (-2), 2), (13, .ireturn, 1), (14, .aload_n 0, 1), (15, .getfield 28, 3), (18, .iload_n 1, 1), (19, .iadd, 1), (20, .sipush 999, 3), (23, .if_icmp .le 6, 3), (26, .bipush (-5), 2), (28, .ireturn, 1), (29, .aload_n 0, 1), (30, .dup, 1), (31, .getfield 28, 3), (34, .iload_n 1, 1), (35, .iadd, 1), (36, .putfield 28, 3), (39, .aload_n 0, 1), (40, .invokevirtual 76, 3), (43, .invokestatic 80, 3), (46, .ireturn, 1)]
theorem dX0_moveOn : iX0_moveOn.all (fun q => decide (decode cX0_moveOn q.1 = .ok q.2)) = true := by decide +kernel
abbrev cX0_all : ByteArray := prog_2_method_14_code
def yX0_all : MethodName := ⟨"PointAnswers$Bundle", "all", "()I"⟩
abbrev wsX0_all : List Cond := .code yX0_all cX0_all 1 (some .int) :: wT
def iX0_all : List (Nat × Instr × Nat) := [(0, .iconst 1, 1), (1, .aload_n 0, 1), (2, .getfield 25, 3), (5, .ishl, 1), (6, .iconst 1, 1), (7, .isub, 1), (8, .ireturn, 1)]
theorem dX0_all : iX0_all.all (fun q => decide (decode cX0_all q.1 = .ok q.2)) = true := by decide +kernel
abbrev cX0_answersTo : ByteArray := prog_2_method_16_code
def yX0_answersTo : MethodName := ⟨"PointAnswers$Bundle", "answersTo", "(I)I"⟩
abbrev wsX0_answersTo : List Cond := .code yX0_answersTo cX0_answersTo 5 (some .int) :: wT
def iX0_answersTo : List (Nat × Instr × Nat) := [(0, .iconst 0, 1), (1, .istore_n 2, 1), (2, .iconst 0, 1), (3, .istore_n 3, 1), (4, .iload_n 3, 1), (5, .aload_n 0, 1), (6, .getfield 25, 3), (9, .if_icmp .ge 36, 3), (12, .aload_n 0, 1), (13, .iload_n 3, 1), (14, .invokevirtual 34, 3), (17, .astore 4, 2), (19, .aload 4, 2), (21, .ifnull 18, 3), (24, .aload 4, 2), (26, .getfield 67, 3), (29, .iload_n 1, 1), (30, .if_icmp .ne 9, 3), (33, .iload_n 2, 1), (34, .iconst 1, 1), (35, .iload_n 3, 1), (36, .ishl, 1), (37, .ior, 1), (38, .istore_n 2, 1), (39, .iinc 3 1, 3), (42, .goto (-38), 3), (45, .iload_n 2, 1), (46, .ireturn, 1)]
theorem dX0_answersTo : iX0_answersTo.all (fun q => decide (decode cX0_answersTo q.1 = .ok q.2)) = true := by decide +kernel
abbrev cX0_claims : ByteArray := prog_2_method_15_code
def yX0_claims : MethodName := ⟨"PointAnswers$Bundle", "claims", "()I"⟩
abbrev wsX0_claims : List Cond := .code yX0_claims cX0_claims 1 (some .int) :: wT
def iX0_claims : List (Nat × Instr × Nat) := [(0, .aload_n 0, 1), (1, .bipush (-6), 2), (3, .invokevirtual 89, 3), (6, .ireturn, 1)]
theorem dX0_claims : iX0_claims.all (fun q => decide (decode cX0_claims q.1 = .ok q.2)) = true := by decide +kernel
abbrev cX0_withoutAnswers : ByteArray := prog_2_method_17_code
def yX0_withoutAnswers : MethodName := ⟨"PointAnswers$Bundle", "withoutAnswers", "()I"⟩
abbrev wsX0_withoutAnswers : List Cond := .code yX0_withoutAnswers cX0_withoutAnswers 3 (some .int) :: wT
def iX0_withoutAnswers : List (Nat × Instr × Nat) := [(0, .aload_n 0, 1), (1, .invokevirtual 92, 3), (4, .istore_n 1, 1), (5, .iconst 0, 1), (6, .istore_n 2, 1), (7, .iload_n 2, 1), (8, .aload_n 0, 1), (9, .getfield 25, 3), (12, .if_icmp .ge 19, 3), (15, .iload_n 1, 1), (16, .aload_n 0, 1), (17, .iload_n 2, 1), (18, .invokevirtual 95, 3), (21, .iconst (-1), 1), (22, .ixor, 1), (23, .iand, 1), (24, .istore_n 1, 1), (25, .iinc 2 1, 3), (28, .goto (-21), 3), (31, .iload_n 1, 1), (32, .ireturn, 1)]
theorem dX0_withoutAnswers : iX0_withoutAnswers.all (fun q => decide (decode cX0_withoutAnswers q.1 = .ok q.2)) = true := by decide +kernel
abbrev cX0_ofSide : ByteArray := prog_2_method_19_code
def yX0_ofSide : MethodName := ⟨"PointAnswers$Bundle", "ofSide", "(I)I"⟩
abbrev wsX0_ofSide : List Cond := .code yX0_ofSide cX0_ofSide 5 (some .int) :: wT
def iX0_ofSide : List (Nat × Instr × Nat) := [(0, .iconst 0, 1), (1, .istore_n 2, 1), (2, .iconst 0, 1), (3, .istore_n 3, 1), (4, .iload_n 3, 1), (5, .aload_n 0, 1), (6, .getfield 25, 3), (9, .if_icmp .ge 36, 3), (12, .aload_n 0, 1), (13, .iload_n 3, 1), (14, .invokevirtual 34, 3), (17, .astore 4, 2), (19, .aload 4, 2), (21, .ifnull 18, 3), (24, .aload 4, 2), (26, .getfield 58, 3), (29, .iload_n 1, 1), (30, .if_icmp .ne 9, 3), (33, .iload_n 2, 1), (34, .iconst 1, 1), (35, .iload_n 3, 1), (36, .ishl, 1), (37, .ior, 1), (38, .istore_n 2, 1), (39, .iinc 3 1, 3), (42, .goto (-38), 3), (45, .iload_n 2, 1), (46, .ireturn, 1)]
theorem dX0_ofSide : iX0_ofSide.all (fun q => decide (decode cX0_ofSide q.1 = .ok q.2)) = true := by decide +kernel
abbrev cX0_answered : ByteArray := prog_2_method_26_code
def yX0_answered : MethodName := ⟨"PointAnswers$Bundle", "answered", "()I"⟩
abbrev wsX0_answered : List Cond := .code yX0_answered cX0_answered 1 (some .int) :: wT
def iX0_answered : List (Nat × Instr × Nat) := [(0, .aload_n 0, 1), (1, .invokevirtual 92, 3), (4, .aload_n 0, 1), (5, .invokevirtual 109, 3), (8, .iconst (-1), 1), (9, .ixor, 1), (10, .iand, 1), (11, .aload_n 0, 1), (12, .invokevirtual 76, 3), (15, .iconst (-1), 1), (16, .ixor, 1), (17, .iand, 1), (18, .ireturn, 1)]
theorem dX0_answered : iX0_answered.all (fun q => decide (decode cX0_answered q.1 = .ok q.2)) = true := by decide +kernel
abbrev cX0_reasonAgainst : ByteArray := prog_2_method_28_code
def yX0_reasonAgainst : MethodName := ⟨"PointAnswers$Bundle", "reasonAgainst", "(I)I"⟩
abbrev wsX0_reasonAgainst : List Cond := .code yX0_reasonAgainst cX0_reasonAgainst 2 (some .int) :: wT
def iX0_reasonAgainst : List (Nat × Instr × Nat) := [(0, .aload_n 0, 1), (1, .invokevirtual 98, 3), (4, .iload_n 1, 1), (5, .invokestatic 86, 3), (8, .ifCond .eq 5, 3), (11, .iconst 1, 1), (12, .ireturn, 1), (13, .aload_n 0, 1), (14, .invokevirtual 100, 3), (17, .iload_n 1, 1), (18, .invokestatic 86, 3), (21, .ifCond .eq 5, 3), (24, .iconst 2, 1), (25, .ireturn, 1), (26, .aload_n 0, 1), (27, .aload_n 0, 1), (28, .getfield 28, 3), (31, .invokevirtual 103, 3), (34, .iload_n 1, 1), (35, .invokestatic 86, 3), (38, .ifCond .eq 5, 3), (41, .iconst 3, 1), (42, .ireturn, 1), (43, .aload_n 0, 1), (44, .invokevirtual 106, 3), (47, .iload_n 1, 1), (48, .invokestatic 86, 3), (51, .ifCond .eq 5, 3), (54, .iconst 4, 1), (55, .ireturn, 1), (56, .aload_n 0, 1), (57, .invokevirtual 76, 3), (60, .iload_n 1, 1), (61, .invokestatic 86, 3), (64, .ifCond .eq 7, 3), (67, .iconst 0, 1), (68, .goto 4, 3), (71, .iconst 5, 1), (72, .ireturn, 1)]
theorem dX0_reasonAgainst : iX0_reasonAgainst.all (fun q => decide (decode cX0_reasonAgainst q.1 = .ok q.2)) = true := by decide +kernel
abbrev cX0_depthOf : ByteArray := prog_2_method_29_code
def yX0_depthOf : MethodName := ⟨"PointAnswers$Bundle", "depthOf", "(I)I"⟩
abbrev wsX0_depthOf : List Cond := .code yX0_depthOf cX0_depthOf 4 (some .int) :: wT
def iX0_depthOf : List (Nat × Instr × Nat) := [(0, .iconst 0, 1), (1, .istore_n 2, 1), (2, .aload_n 0, 1), (3, .iload_n 1, 1), (4, .invokevirtual 34, 3), (7, .astore_n 3, 1), (8, .iload_n 2, 1), (9, .bipush 24, 2), (11, .if_icmp .ge 31, 3), (14, .aload_n 3, 1), (15, .ifnull 27, 3), (18, .aload_n 3, 1), (19, .getfield 67, 3), (22, .bipush (-6), 2), (24, .if_icmp .eq 18, 3), (27, .iinc 2 1, 3), (30, .aload_n 0, 1), (31, .aload_n 3, 1), (32, .getfield 67, 3), (35, .invokevirtual 34, 3), (38, .astore_n 3, 1), (39, .goto (-31), 3), (42, .iload_n 2, 1), (43, .ireturn, 1)]
theorem dX0_depthOf : iX0_depthOf.all (fun q => decide (decode cX0_depthOf q.1 = .ok q.2)) = true := by decide +kernel
abbrev cX0_daysLeft : ByteArray := prog_2_method_30_code
def yX0_daysLeft : MethodName := ⟨"PointAnswers$Bundle", "daysLeft", "(LPointAnswers$Point;)I"⟩
abbrev wsX0_daysLeft : List Cond := .code yX0_daysLeft cX0_daysLeft 3 (some .int) :: wT
def iX0_daysLeft : List (Nat × Instr × Nat) := [(0, .aload_n 1, 1), (1, .getfield 73, 3), (4, .aload_n 0, 1), (5, .getfield 17, 3), (8, .iadd, 1), (9, .aload_n 0, 1), (10, .getfield 28, 3), (13, .isub, 1), (14, .istore_n 2, 1), (15, .aload_n 1, 1), (16, .getfield 67, 3), (19, .bipush (-6), 2), (21, .if_icmp .eq 7, 3), (24, .iload_n 2, 1), (25, .ifCond .ge 8, 3), (28, .bipush (-6), 2), (30, .goto 4, 3), (33, .iload_n 2, 1), (34, .ireturn, 1)]
theorem dX0_daysLeft : iX0_daysLeft.all (fun q => decide (decode cX0_daysLeft q.1 = .ok q.2)) = true := by decide +kernel
abbrev cX0_pagesOf : ByteArray := prog_2_method_31_code
def yX0_pagesOf : MethodName := ⟨"PointAnswers$Bundle", "pagesOf", "(II)I"⟩
abbrev wsX0_pagesOf : List Cond := .code yX0_pagesOf cX0_pagesOf 6 (some .int) :: wT
def iX0_pagesOf : List (Nat × Instr × Nat) := [(0, .iconst 0, 1), (1, .istore_n 3, 1), (2, .iconst 0, 1), (3, .istore 4, 2), (5, .iload 4, 2), (7, .aload_n 0, 1), (8, .getfield 25, 3), (11, .if_icmp .ge 48, 3), (14, .aload_n 0, 1), (15, .iload 4, 2), (17, .invokevirtual 34, 3), (20, .astore 5, 2), (22, .aload 5, 2), (24, .ifnull 29, 3), (27, .aload 5, 2), (29, .getfield 58, 3), (32, .iload_n 1, 1), (33, .if_icmp .ne 20, 3), (36, .iload_n 2, 1), (37, .iload 4, 2), (39, .invokestatic 86, 3), (42, .ifCond .ne 11, 3), (45, .iload_n 3, 1), (46, .aload 5, 2), (48, .getfield 61, 3), (51, .iadd, 1), (52, .istore_n 3, 1), (53, .iinc 4 1, 3), (56, .goto (-51), 3), (59, .iload_n 3, 1), (60, .ireturn, 1)]
theorem dX0_pagesOf : iX0_pagesOf.all (fun q => decide (decode cX0_pagesOf q.1 = .ok q.2)) = true := by decide +kernel
abbrev cX1_init : ByteArray := prog_3_method_1_code
def yX1_init : MethodName := ⟨"PointAnswers$Costs", "<init>", "()V"⟩
abbrev wsX1_init : List Cond := .code yX1_init cX1_init 1 none :: wT
def iX1_init : List (Nat × Instr × Nat) := [(0, .aload_n 0, 1), (1, .invokespecial 3, 3), (4, .aload_n 0, 1), (5, .bipush 24, 2), (7, .newarray .int, 2), (9, .putfield 9, 3), (12, .aload_n 0, 1), (13, .bipush 24, 2), (15, .newarray .int, 2), (17, .putfield 15, 3), (20, .return_, 1)]
theorem dX1_init : iX1_init.all (fun q => decide (decode cX1_init q.1 = .ok q.2)) = true := by decide +kernel
abbrev cX1_addToTarget : ByteArray := prog_3_method_3_code
def yX1_addToTarget : MethodName := ⟨"PointAnswers$Costs", "addToTarget", "(III)V"⟩
abbrev wsX1_addToTarget : List Cond := .code yX1_addToTarget cX1_addToTarget 4 none :: wT
def iX1_addToTarget : List (Nat × Instr × Nat) := [(0, .iload_n 1, 1), (1, .ifCond .lt 57, 3), (4, .iload_n 1, 1), (5, .aload_n 0, 1), (6, .getfield 9, 3), (9, .arraylength, 1), (10, .if_icmp .ge 48, 3), (13, .iload_n 1, 1), (14, .aload_n 0, 1), (15, .getfield 15, 3), (18, .arraylength, 1), (19, .if_icmp .ge 39, 3), (22, .aload_n 0, 1), (23, .getfield 9, 3), (26, .iload_n 1, 1), (27, .aload_n 0, 1), (28, .getfield 9, 3), (31, .iload_n 1, 1), (32, .iaload, 1), (33, .iload_n 3, 1), (34, .invokestatic 27, 3), (37, .iastore, 1), (38, .aload_n 0, 1), (39, .getfield 15, 3), (42, .iload_n 1, 1), (43, .sipush 1000, 3), (46, .aload_n 0, 1), (47, .getfield 15, 3), (50, .iload_n 1, 1), (51, .iaload, 1), (52, .iload_n 2, 1), (53, .iadd, 1), (54, .invokestatic 27, 3), (57, .iastore, 1), (58, .return_, 1)]
theorem dX1_addToTarget : iX1_addToTarget.all (fun q => decide (decode cX1_addToTarget q.1 = .ok q.2)) = true := by decide +kernel
abbrev cX1_weigh : ByteArray := prog_3_method_2_code
def yX1_weigh : MethodName := ⟨"PointAnswers$Costs", "weigh", "(LPointAnswers$Bundle;)V"⟩
abbrev wsX1_weigh : List Cond := .code yX1_weigh cX1_weigh 7 none :: wT
def iX1_weigh : List (Nat × Instr × Nat) := [(0, .aload_n 1, 1), (1, .invokevirtual 18, 3), (4, .istore_n 2, 1), (5, .aload_n 1, 1), (6, .invokevirtual 24, 3), (9, .istore_n 3, 1), (10, .aload_n 0, 1), (11, .getfield 9, 3), (14, .arraylength, 1), (15, .aload_n 0, 1), (16, .getfield 15, 3), (19, .arraylength, 1), (20, .invokestatic 27, 3), (23, .istore 4, 2), (25, .iconst 0, 1), (26, .istore 5, 2), (28, .iload 5, 2), (30, .iload 4, 2), (32, .if_icmp .ge 27, 3), (35, .aload_n 0, 1), (36, .getfield 9, 3), (39, .iload 5, 2), (41, .sipush 1000, 3), (44, .iastore, 1), (45, .aload_n 0, 1), (46, .getfield 15, 3), (49, .iload 5, 2), (51, .iconst 0, 1), (52, .iastore, 1), (53, .iinc 5 1, 3), (56, .goto (-28), 3), (59, .iload 4, 2), (61, .iconst 1, 1), (62, .isub, 1), (63, .istore 5, 2), (65, .iload 5, 2), (67, .ifCond .lt 95, 3), (70, .aload_n 1, 1), (71, .iload 5, 2), (73, .invokevirtual 33, 3), (76, .astore 6, 2), (78, .aload 6, 2), (80, .ifnonnull 6, 3), (83, .goto 73, 3), (86, .iload_n 2, 1), (87, .iload 5, 2), (89, .invokestatic 37, 3), (92, .ifCond .eq 24, 3), (95, .aload_n 0, 1), (96, .getfield 9, 3), (99, .iload 5, 2), (101, .iconst 0, 1), (102, .iastore, 1), (103, .aload_n 0, 1), (104, .getfield 15, 3), (107, .iload 5, 2), (109, .sipush 1000, 3), (112, .iastore, 1), (113, .goto 20, 3), (116, .iload_n 3, 1), (117, .iload 5, 2), (119, .invokestatic 37, 3), (122, .ifCond .eq 11, 3), (125, .aload_n 0, 1), (126, .getfield 9, 3), (129, .iload 5, 2), (131, .iconst 1, 1), (132, .iastore, 1), (133, .aload_n 0, 1), (134, .aload 6, 2), (136, .getfield 41, 3), (139, .aload_n 0, 1), (140, .getfield 9, 3), (143, .iload 5, 2), (145, .iaload, 1), (146, .aload_n 0, 1), (147, .getfield 15, 3), (150, .iload 5, 2), (152, .iaload, 1), (153, .invokevirtual 47, 3), (156, .iinc 5 (-1), 3), (159, .goto (-94), 3), (162, .return_, 1)]
theorem dX1_weigh : iX1_weigh.all (fun q => decide (decode cX1_weigh q.1 = .ok q.2)) = true := by decide +kernel
abbrev cX1_reachable : ByteArray := prog_3_method_6_code
def yX1_reachable : MethodName := ⟨"PointAnswers$Costs", "reachable", "(I)I"⟩
abbrev wsX1_reachable : List Cond := .code yX1_reachable cX1_reachable 1 (some .int) :: wT
def iX1_reachable : List (Nat × Instr × Nat) := [(0, .iload_n 0, 1), (1, .sipush 1000, 3), (4, .if_icmp .lt 8, 3), (7, .bipush (-6), 2), (9, .goto 4, 3), (12, .iload_n 0, 1), (13, .ireturn, 1)]
theorem dX1_reachable : iX1_reachable.all (fun q => decide (decode cX1_reachable q.1 = .ok q.2)) = true := by decide +kernel
abbrev cX1_answersToFall : ByteArray := prog_3_method_4_code
def yX1_answersToFall : MethodName := ⟨"PointAnswers$Costs", "answersToFall", "(I)I"⟩
abbrev wsX1_answersToFall : List Cond := .code yX1_answersToFall cX1_answersToFall 2 (some .int) :: wT
def iX1_answersToFall : List (Nat × Instr × Nat) := [(0, .iload_n 1, 1), (1, .ifCond .lt 21, 3), (4, .iload_n 1, 1), (5, .aload_n 0, 1), (6, .getfield 9, 3), (9, .arraylength, 1), (10, .if_icmp .ge 12, 3), (13, .aload_n 0, 1), (14, .getfield 9, 3), (17, .iload_n 1, 1), (18, .iaload, 1), (19, .goto 6, 3), (22, .sipush 1000, 3), (25, .invokestatic 51, 3), (28, .ireturn, 1)]
theorem dX1_answersToFall : iX1_answersToFall.all (fun q => decide (decode cX1_answersToFall q.1 = .ok q.2)) = true := by decide +kernel
abbrev cX1_answersToStand : ByteArray := prog_3_method_5_code
def yX1_answersToStand : MethodName := ⟨"PointAnswers$Costs", "answersToStand", "(I)I"⟩
abbrev wsX1_answersToStand : List Cond := .code yX1_answersToStand cX1_answersToStand 2 (some .int) :: wT
def iX1_answersToStand : List (Nat × Instr × Nat) := [(0, .iload_n 1, 1), (1, .ifCond .lt 21, 3), (4, .iload_n 1, 1), (5, .aload_n 0, 1), (6, .getfield 15, 3), (9, .arraylength, 1), (10, .if_icmp .ge 12, 3), (13, .aload_n 0, 1), (14, .getfield 15, 3), (17, .iload_n 1, 1), (18, .iaload, 1), (19, .goto 6, 3), (22, .sipush 1000, 3), (25, .invokestatic 51, 3), (28, .ireturn, 1)]
theorem dX1_answersToStand : iX1_answersToStand.all (fun q => decide (decode cX1_answersToStand q.1 = .ok q.2)) = true := by decide +kernel
abbrev cX2_init : ByteArray := prog_4_method_1_code
def yX2_init : MethodName := ⟨"PointAnswers$History", "<init>", "()V"⟩
abbrev wsX2_init : List Cond := .code yX2_init cX2_init 2 none :: wT
def iX2_init : List (Nat × Instr × Nat) := [(0, .aload_n 0, 1), (1, .invokespecial 3, 3), (4, .aload_n 0, 1), (5, .bipush 7, 2), (7, .anewarray 9, 3), (10, .putfield 11, 3), (13, .iconst 0, 1), (14, .istore_n 1, 1), (15, .iload_n 1, 1), (16, .aload_n 0, 1), (17, .getfield 11, 3), (20, .arraylength, 1), (21, .if_icmp .ge 22, 3), (24, .aload_n 0, 1), (25, .getfield 11, 3), (28, .iload_n 1, 1), (29, .new 9, 3), (32, .dup, 1), (33, .invokespecial 17, 3), (36, .aastore, 1), (37, .iinc 1 1, 3), (40, .goto (-25), 3), (43, .return_, 1)]
theorem dX2_init : iX2_init.all (fun q => decide (decode cX2_init q.1 = .ok q.2)) = true := by decide +kernel
abbrev cX2_rowAt : ByteArray := prog_4_method_2_code
def yX2_rowAt : MethodName := ⟨"PointAnswers$History", "rowAt", "(I)LPointAnswers$Bundle;"⟩
abbrev wsX2_rowAt : List Cond := .code yX2_rowAt cX2_rowAt 2 (some (.object "PointAnswers$Bundle")) :: wT
def iX2_rowAt : List (Nat × Instr × Nat) := [(0, .iload_n 1, 1), (1, .ifCond .lt 21, 3), (4, .iload_n 1, 1), (5, .aload_n 0, 1), (6, .getfield 11, 3), (9, .arraylength, 1), (10, .if_icmp .ge 12, 3), (13, .aload_n 0, 1), (14, .getfield 11, 3), (17, .iload_n 1, 1), (18, .aaload, 1), (19, .goto 4, 3), (22, .aconst_null, 1), (23, .areturn, 1)]
theorem dX2_rowAt : iX2_rowAt.all (fun q => decide (decode cX2_rowAt q.1 = .ok q.2)) = true := by decide +kernel
abbrev cX2_prepare : ByteArray := prog_4_method_3_code
def yX2_prepare : MethodName := ⟨"PointAnswers$History", "prepare", "(LPointAnswers$Bundle;)V"⟩
abbrev wsX2_prepare : List Cond := .code yX2_prepare cX2_prepare 3 none :: wT
def iX2_prepare : List (Nat × Instr × Nat) := [(0, .aload_n 0, 1), (1, .aload_n 0, 1), (2, .getfield 18, 3), (5, .invokevirtual 22, 3), (8, .astore_n 2, 1), (9, .aload_n 2, 1), (10, .ifnull 8, 3), (13, .aload_n 2, 1), (14, .aload_n 1, 1), (15, .invokevirtual 26, 3), (18, .return_, 1)]
theorem dX2_prepare : iX2_prepare.all (fun q => decide (decode cX2_prepare q.1 = .ok q.2)) = true := by decide +kernel
abbrev cX2_dropOldest : ByteArray := prog_4_method_5_code
def yX2_dropOldest : MethodName := ⟨"PointAnswers$History", "dropOldest", "()V"⟩
abbrev wsX2_dropOldest : List Cond := .code yX2_dropOldest cX2_dropOldest 3 none :: wT
def iX2_dropOldest : List (Nat × Instr × Nat) := [(0, .aload_n 0, 1), (1, .iconst 0, 1), (2, .invokevirtual 22, 3), (5, .astore_n 1, 1), (6, .iconst 0, 1), (7, .istore_n 2, 1), (8, .iload_n 2, 1), (9, .iconst 1, 1), (10, .iadd, 1), (11, .aload_n 0, 1), (12, .getfield 11, 3), (15, .arraylength, 1), (16, .if_icmp .ge 32, 3), (19, .aload_n 0, 1), (20, .getfield 11, 3), (23, .iload_n 2, 1), (24, .aload_n 0, 1), (25, .getfield 11, 3), (28, .iload_n 2, 1), (29, .iconst 1, 1), (30, .iadd, 1), (31, .aaload, 1), (32, .aastore, 1), (33, .aload_n 0, 1), (34, .getfield 11, 3), (37, .iload_n 2, 1), (38, .iconst 1, 1), (39, .iadd, 1), (40, .aload_n 1, 1), (41, .aastore, 1), (42, .iinc 2 1, 3), (45, .goto (-37), 3), (48, .return_, 1)]
theorem dX2_dropOldest : iX2_dropOldest.all (fun q => decide (decode cX2_dropOldest q.1 = .ok q.2)) = true := by decide +kernel
abbrev cX2_settle : ByteArray := prog_4_method_4_code
def yX2_settle : MethodName := ⟨"PointAnswers$History", "settle", "(I)I"⟩
abbrev wsX2_settle : List Cond := .code yX2_settle cX2_settle 2 (some .int) :: wT
def iX2_settle : List (Nat × Instr × Nat) := [(0, .iload_n 1, 1), (1, .ifCond .lt 29, 3), (4, .aload_n 0, 1), (5, .getfield 18, 3), (8, .bipush 6, 2), (10, .if_icmp .ge 16, 3), (13, .aload_n 0, 1), (14, .dup, 1), (15, .getfield 18, 3), (18, .iconst 1, 1), (19, .iadd, 1), (20, .putfield 18, 3), (23, .goto 7, 3), (26, .aload_n 0, 1), (27, .invokevirtual 30, 3), (30, .iload_n 1, 1), (31, .ireturn, 1)]
theorem dX2_settle : iX2_settle.all (fun q => decide (decode cX2_settle q.1 = .ok q.2)) = true := by decide +kernel
abbrev cX3_init : ByteArray := prog_5_method_1_code
def yX3_init : MethodName := ⟨"PointAnswers$Pad", "<init>", "()V"⟩
abbrev wsX3_init : List Cond := .code yX3_init cX3_init 1 none :: wT
def iX3_init : List (Nat × Instr × Nat) := [(0, .aload_n 0, 1), (1, .invokespecial 3, 3), (4, .aload_n 0, 1), (5, .bipush 80, 2), (7, .newarray .char, 2), (9, .putfield 9, 3), (12, .return_, 1)]
theorem dX3_init : iX3_init.all (fun q => decide (decode cX3_init q.1 = .ok q.2)) = true := by decide +kernel
abbrev cX5_init : ByteArray := prog_7_method_1_code
def yX5_init : MethodName := ⟨"PointAnswers$Reader", "<init>", "()V"⟩
abbrev wsX5_init : List Cond := .code yX5_init cX5_init 1 none :: wT
def iX5_init : List (Nat × Instr × Nat) := [(0, .aload_n 0, 1), (1, .invokespecial 3, 3), (4, .return_, 1)]
theorem dX5_init : iX5_init.all (fun q => decide (decode cX5_init q.1 = .ok q.2)) = true := by decide +kernel
abbrev cX6_init : ByteArray := prog_1_method_1_code
def yX6_init : MethodName := ⟨"PointAnswers", "<init>", "()V"⟩
abbrev wsX6_init : List Cond := .code yX6_init cX6_init 2 none :: wT
def iX6_init : List (Nat × Instr × Nat) := [(0, .aload_n 0, 1), (1, .invokespecial 3, 3), (4, .aload_n 0, 1), (5, .new 9, 3), (8, .dup, 1), (9, .invokespecial 11, 3), (12, .putfield 12, 3), (15, .aload_n 0, 1), (16, .new 16, 3), (19, .dup, 1), (20, .invokespecial 18, 3), (23, .putfield 19, 3), (26, .aload_n 0, 1), (27, .new 23, 3), (30, .dup, 1), (31, .invokespecial 25, 3), (34, .putfield 26, 3), (37, .aload_n 0, 1), (38, .new 30, 3), (41, .dup, 1), (42, .invokespecial 32, 3), (45, .putfield 33, 3), (48, .aload_n 0, 1), (49, .new 37, 3), (52, .dup, 1), (53, .invokespecial 39, 3), (56, .putfield 40, 3), (59, .aload_n 0, 1), (60, .iconst 2, 1), (61, .anewarray 9, 3), (64, .putfield 44, 3), (67, .iconst 0, 1), (68, .istore_n 1, 1), (69, .iload_n 1, 1), (70, .aload_n 0, 1), (71, .getfield 44, 3), (74, .arraylength, 1), (75, .if_icmp .ge 22, 3), (78, .aload_n 0, 1), (79, .getfield 44, 3), (82, .iload_n 1, 1), (83, .new 9, 3), (86, .dup, 1), (87, .invokespecial 11, 3), (90, .aastore, 1), (91, .iinc 1 1, 3), (94, .goto (-25), 3), (97, .return_, 1)]
theorem dX6_init : iX6_init.all (fun q => decide (decode cX6_init q.1 = .ok q.2)) = true := by decide +kernel
abbrev cX6_set : ByteArray := prog_1_method_2_code
def yX6_set : MethodName := ⟨"PointAnswers", "set", "(II)I"⟩
abbrev wsX6_set : List Cond := .code yX6_set cX6_set 3 (some .int) :: wT
def iX6_set : List (Nat × Instr × Nat) := [(0, .aload_n 0, 1), (1, .getfield 40, 3), (4, .aload_n 0, 1), (5, .getfield 12, 3), (8, .invokevirtual 48, 3), (11, .aload_n 0, 1), (12, .getfield 40, 3), (15, .aload_n 0, 1), (16, .getfield 12, 3), (19, .iload_n 1, 1), (20, .iload_n 2, 1), (21, .invokevirtual 52, 3), (24, .invokevirtual 56, 3), (27, .ireturn, 1)]
theorem dX6_set : iX6_set.all (fun q => decide (decode cX6_set q.1 = .ok q.2)) = true := by decide +kernel
abbrev cX6_claim : ByteArray := prog_1_method_3_code
def yX6_claim : MethodName := ⟨"PointAnswers", "claim", "(III)I"⟩
abbrev wsX6_claim : List Cond := .code yX6_claim cX6_claim 4 (some .int) :: wT
def iX6_claim : List (Nat × Instr × Nat) := [(0, .aload_n 0, 1), (1, .getfield 40, 3), (4, .aload_n 0, 1), (5, .getfield 12, 3), (8, .invokevirtual 48, 3), (11, .aload_n 0, 1), (12, .getfield 40, 3), (15, .aload_n 0, 1), (16, .getfield 12, 3), (19, .iload_n 1, 1), (20, .iload_n 2, 1), (21, .iload_n 3, 1), (22, .invokevirtual 60, 3), (25, .invokevirtual 56, 3), (28, .ireturn, 1)]
theorem dX6_claim : iX6_claim.all (fun q => decide (decode cX6_claim q.1 = .ok q.2)) = true := by decide +kernel
abbrev cX6_answer : ByteArray := prog_1_method_4_code
def yX6_answer : MethodName := ⟨"PointAnswers", "answer", "(III)I"⟩
abbrev wsX6_answer : List Cond := .code yX6_answer cX6_answer 4 (some .int) :: wT
def iX6_answer : List (Nat × Instr × Nat) := [(0, .aload_n 0, 1), (1, .getfield 40, 3), (4, .aload_n 0, 1), (5, .getfield 12, 3), (8, .invokevirtual 48, 3), (11, .aload_n 0, 1), (12, .getfield 40, 3), (15, .aload_n 0, 1), (16, .getfield 12, 3), (19, .iload_n 1, 1), (20, .iload_n 2, 1), (21, .iload_n 3, 1), (22, .invokevirtual 64, 3), (25, .invokevirtual 56, 3), (28, .ireturn, 1)]
theorem dX6_answer : iX6_answer.all (fun q => decide (decode cX6_answer q.1 = .ok q.2)) = true := by decide +kernel
abbrev cX6_withdraw : ByteArray := prog_1_method_5_code
def yX6_withdraw : MethodName := ⟨"PointAnswers", "withdraw", "(I)I"⟩
abbrev wsX6_withdraw : List Cond := .code yX6_withdraw cX6_withdraw 2 (some .int) :: wT
def iX6_withdraw : List (Nat × Instr × Nat) := [(0, .aload_n 0, 1), (1, .getfield 40, 3), (4, .aload_n 0, 1), (5, .getfield 12, 3), (8, .invokevirtual 48, 3), (11, .aload_n 0, 1), (12, .getfield 40, 3), (15, .aload_n 0, 1), (16, .getfield 12, 3), (19, .iload_n 1, 1), (20, .invokevirtual 67, 3), (23, .invokevirtual 56, 3), (26, .ireturn, 1)]
theorem dX6_withdraw : iX6_withdraw.all (fun q => decide (decode cX6_withdraw q.1 = .ok q.2)) = true := by decide +kernel
abbrev cX6_renew : ByteArray := prog_1_method_6_code
def yX6_renew : MethodName := ⟨"PointAnswers", "renew", "(I)I"⟩
abbrev wsX6_renew : List Cond := .code yX6_renew cX6_renew 2 (some .int) :: wT
def iX6_renew : List (Nat × Instr × Nat) := [(0, .aload_n 0, 1), (1, .getfield 40, 3), (4, .aload_n 0, 1), (5, .getfield 12, 3), (8, .invokevirtual 48, 3), (11, .aload_n 0, 1), (12, .getfield 40, 3), (15, .aload_n 0, 1), (16, .getfield 12, 3), (19, .iload_n 1, 1), (20, .invokevirtual 70, 3), (23, .invokevirtual 56, 3), (26, .ireturn, 1)]
theorem dX6_renew : iX6_renew.all (fun q => decide (decode cX6_renew q.1 = .ok q.2)) = true := by decide +kernel
abbrev cX6_overrule : ByteArray := prog_1_method_7_code
def yX6_overrule : MethodName := ⟨"PointAnswers", "overrule", "(I)I"⟩
abbrev wsX6_overrule : List Cond := .code yX6_overrule cX6_overrule 2 (some .int) :: wT
def iX6_overrule : List (Nat × Instr × Nat) := [(0, .aload_n 0, 1), (1, .getfield 40, 3), (4, .aload_n 0, 1), (5, .getfield 12, 3), (8, .invokevirtual 48, 3), (11, .aload_n 0, 1), (12, .getfield 40, 3), (15, .aload_n 0, 1), (16, .getfield 12, 3), (19, .iload_n 1, 1), (20, .invokevirtual 73, 3), (23, .invokevirtual 56, 3), (26, .ireturn, 1)]
theorem dX6_overrule : iX6_overrule.all (fun q => decide (decode cX6_overrule q.1 = .ok q.2)) = true := by decide +kernel
abbrev cX6_pass : ByteArray := prog_1_method_8_code
def yX6_pass : MethodName := ⟨"PointAnswers", "pass", "(I)I"⟩
abbrev wsX6_pass : List Cond := .code yX6_pass cX6_pass 2 (some .int) :: wT
def iX6_pass : List (Nat × Instr × Nat) := [(0, .aload_n 0, 1), (1, .getfield 40, 3), (4, .aload_n 0, 1), (5, .getfield 12, 3), (8, .invokevirtual 48, 3), (11, .aload_n 0, 1), (12, .getfield 40, 3), (15, .aload_n 0, 1), (16, .getfield 12, 3), (19, .iload_n 1, 1), (20, .invokevirtual 76, 3), (23, .invokevirtual 56, 3), (26, .ireturn, 1)]
theorem dX6_pass : iX6_pass.all (fun q => decide (decode cX6_pass q.1 = .ok q.2)) = true := by decide +kernel
abbrev cX6_lowestOf : ByteArray := prog_1_method_28_code
def yX6_lowestOf : MethodName := ⟨"PointAnswers", "lowestOf", "(I)I"⟩
abbrev wsX6_lowestOf : List Cond := .code yX6_lowestOf cX6_lowestOf 2 (some .int) :: wT
def iX6_lowestOf : List (Nat × Instr × Nat) := [(0, .iconst 0, 1), (1, .istore_n 1, 1), (2, .iload_n 1, 1), (3, .bipush 24, 2), (5, .if_icmp .ge 19, 3), (8, .iload_n 0, 1), (9, .iload_n 1, 1), (10, .invokestatic 105, 3), (13, .ifCond .eq 5, 3), (16, .iload_n 1, 1), (17, .ireturn, 1), (18, .iinc 1 1, 3), (21, .goto (-19), 3), (24, .bipush (-6), 2), (26, .ireturn, 1)]
theorem dX6_lowestOf : iX6_lowestOf.all (fun q => decide (decode cX6_lowestOf q.1 = .ok q.2)) = true := by decide +kernel
abbrev cX6_of : ByteArray := prog_1_method_9_code
def yX6_of : MethodName := ⟨"PointAnswers", "of", "(II)I"⟩
abbrev wsX6_of : List Cond := .code yX6_of cX6_of 4 (some .int) :: wT
def iX6_of : List (Nat × Instr × Nat) := [(0, .aload_n 0, 1), (1, .getfield 12, 3), (4, .iload_n 1, 1), (5, .invokevirtual 79, 3), (8, .astore_n 3, 1), (9, .aload_n 3, 1), (10, .ifnonnull 5, 3), (13, .iconst (-1), 1), (14, .ireturn, 1), (15, .iload_n 2, 1), (16, .tableswitch 161 0 10 #[60, 65, 70, 75, 80, 85, 105, 114, 134, 143, 152], 60), (76, .aload_n 3, 1), (77, .getfield 83, 3), (80, .ireturn, 1), (81, .aload_n 3, 1), (82, .getfield 89, 3), (85, .ireturn, 1), (86, .aload_n 3, 1), (87, .getfield 92, 3), (90, .ireturn, 1), (91, .aload_n 3, 1), (92, .getfield 95, 3), (95, .ireturn, 1), (96, .aload_n 3, 1), (97, .getfield 98, 3), (100, .ireturn, 1), (101, .aload_n 0, 1), (102, .getfield 12, 3), (105, .invokevirtual 101, 3), (108, .iload_n 1, 1), (109, .invokestatic 105, 3), (112, .ifCond .eq 7, 3), (115, .iconst 1, 1), (116, .goto 4, 3), (119, .iconst 0, 1), (120, .ireturn, 1), (121, .aload_n 0, 1), (122, .getfield 12, 3), (125, .iload_n 1, 1), (126, .invokevirtual 109, 3), (129, .ireturn, 1), (130, .aload_n 0, 1), (131, .getfield 12, 3), (134, .iload_n 1, 1), (135, .invokevirtual 112, 3), (138, .aload_n 0, 1), (139, .getfield 12, 3), (142, .invokevirtual 101, 3), (145, .iand, 1), (146, .invokestatic 115, 3), (149, .ireturn, 1), (150, .aload_n 0, 1), (151, .getfield 12, 3), (154, .iload_n 1, 1), (155, .invokevirtual 112, 3), (158, .ireturn, 1), (159, .aload_n 0, 1), (160, .getfield 12, 3), (163, .iload_n 1, 1), (164, .invokevirtual 118, 3), (167, .ireturn, 1), (168, .aload_n 0, 1), (169, .getfield 12, 3), (172, .aload_n 3, 1), (173, .invokevirtual 121, 3), (176, .ireturn, 1), (177, .bipush (-2), 2), (179, .ireturn, 1)]
theorem dX6_of : iX6_of.all (fun q => decide (decode cX6_of q.1 = .ok q.2)) = true := by decide +kernel
abbrev cX6_count : ByteArray := prog_1_method_10_code
def yX6_count : MethodName := ⟨"PointAnswers", "count", "(I)I"⟩
abbrev wsX6_count : List Cond := .code yX6_count cX6_count 2 (some .int) :: wT
def iX6_count : List (Nat × Instr × Nat) := [(0, .iload_n 1, 1), (1, .tableswitch 238 0 13 #[71, 79, 87, 98, 109, 128, 139, 150, 174, 198, 206, 214, 222, 230], 71), (72, .aload_n 0, 1), (73, .getfield 12, 3), (76, .getfield 125, 3), (79, .ireturn, 1), (80, .aload_n 0, 1), (81, .getfield 12, 3), (84, .getfield 128, 3), (87, .ireturn, 1), (88, .aload_n 0, 1), (89, .getfield 12, 3), (92, .invokevirtual 131, 3), (95, .invokestatic 134, 3), (98, .ireturn, 1), (99, .aload_n 0, 1), (100, .getfield 12, 3), (103, .invokevirtual 101, 3), (106, .invokestatic 134, 3), (109, .ireturn, 1), (110, .aload_n 0, 1), (111, .getfield 12, 3), (114, .invokevirtual 131, 3), (117, .aload_n 0, 1), (118, .getfield 12, 3), (121, .invokevirtual 101, 3), (124, .iand, 1), (125, .invokestatic 134, 3), (128, .ireturn, 1), (129, .aload_n 0, 1), (130, .getfield 12, 3), (133, .invokevirtual 139, 3), (136, .invokestatic 134, 3), (139, .ireturn, 1), (140, .aload_n 0, 1), (141, .getfield 12, 3), (144, .invokevirtual 142, 3), (147, .invokestatic 134, 3), (150, .ireturn, 1), (151, .aload_n 0, 1), (152, .getfield 12, 3), (155, .iconst 0, 1), (156, .aload_n 0, 1), (157, .getfield 12, 3), (160, .invokevirtual 145, 3), (163, .aload_n 0, 1), (164, .getfield 12, 3), (167, .invokevirtual 148, 3), (170, .ior, 1), (171, .invokevirtual 151, 3), (174, .ireturn, 1), (175, .aload_n 0, 1), (176, .getfield 12, 3), (179, .iconst 1, 1), (180, .aload_n 0, 1), (181, .getfield 12, 3), (184, .invokevirtual 145, 3), (187, .aload_n 0, 1), (188, .getfield 12, 3), (191, .invokevirtual 148, 3), (194, .ior, 1), (195, .invokevirtual 151, 3), (198, .ireturn, 1), (199, .aload_n 0, 1), (200, .getfield 12, 3), (203, .getfield 154, 3), (206, .ireturn, 1), (207, .aload_n 0, 1), (208, .getfield 12, 3), (211, .getfield 157, 3), (214, .ireturn, 1), (215, .aload_n 0, 1), (216, .getfield 12, 3), (219, .getfield 160, 3), (222, .ireturn, 1), (223, .aload_n 0, 1), (224, .getfield 26, 3), (227, .getfield 163, 3), (230, .ireturn, 1), (231, .aload_n 0, 1), (232, .getfield 40, 3), (235, .getfield 166, 3), (238, .ireturn, 1), (239, .bipush (-2), 2), (241, .ireturn, 1)]
theorem dX6_count : iX6_count.all (fun q => decide (decode cX6_count q.1 = .ok q.2)) = true := by decide +kernel
abbrev cX6_points : ByteArray := prog_1_method_11_code
def yX6_points : MethodName := ⟨"PointAnswers", "points", "(I)I"⟩
abbrev wsX6_points : List Cond := .code yX6_points cX6_points 2 (some .int) :: wT
def iX6_points : List (Nat × Instr × Nat) := [(0, .iload_n 1, 1), (1, .tableswitch 97 0 5 #[39, 47, 63, 71, 79, 88], 39), (40, .aload_n 0, 1), (41, .getfield 12, 3), (44, .invokevirtual 101, 3), (47, .ireturn, 1), (48, .aload_n 0, 1), (49, .getfield 12, 3), (52, .invokevirtual 131, 3), (55, .aload_n 0, 1), (56, .getfield 12, 3), (59, .invokevirtual 101, 3), (62, .iand, 1), (63, .ireturn, 1), (64, .aload_n 0, 1), (65, .getfield 12, 3), (68, .invokevirtual 139, 3), (71, .ireturn, 1), (72, .aload_n 0, 1), (73, .getfield 12, 3), (76, .invokevirtual 142, 3), (79, .ireturn, 1), (80, .aload_n 0, 1), (81, .getfield 12, 3), (84, .iconst 0, 1), (85, .invokevirtual 169, 3), (88, .ireturn, 1), (89, .aload_n 0, 1), (90, .getfield 12, 3), (93, .iconst 1, 1), (94, .invokevirtual 169, 3), (97, .ireturn, 1), (98, .bipush (-2), 2), (100, .ireturn, 1)]
theorem dX6_points : iX6_points.all (fun q => decide (decode cX6_points q.1 = .ok q.2)) = true := by decide +kernel
abbrev cX6_floatBits : ByteArray := prog_1_method_29_code
def yX6_floatBits : MethodName := ⟨"PointAnswers", "floatBits", "(II)I"⟩
abbrev wsX6_floatBits : List Cond := .code yX6_floatBits cX6_floatBits 9 (some .int) :: wT
def iX6_floatBits : List (Nat × Instr × Nat) := [(0, .iload_n 0, 1), (1, .ifCond .le 7, 3), (4, .iload_n 1, 1), (5, .ifCond .gt 5, 3), (8, .iconst 0, 1), (9, .ireturn, 1), (10, .iload_n 0, 1), (11, .i2l, 1), (12, .lstore_n 2, 1), (13, .bipush 127, 2), (15, .istore 4, 2), (17, .lload_n 2, 1), (18, .iload_n 1, 1), (19, .i2l, 1), (20, .lcmp, 1), (21, .ifCond .ge 20, 3), (24, .iload 4, 2), (26, .ifCond .le 15, 3), (29, .lload_n 2, 1), (30, .ldc2_w 257, 3), (33, .lmul, 1), (34, .lstore_n 2, 1), (35, .iinc 4 (-1), 3), (38, .goto (-21), 3), (41, .lload_n 2, 1), (42, .bipush 23, 2), (44, .lshl, 1), (45, .lstore 5, 2), (47, .lload 5, 2), (49, .iload_n 1, 1), (50, .i2l, 1), (51, .ldiv, 1), (52, .lstore 7, 2), (54, .ldc2_w 257, 3), (57, .lload 5, 2), (59, .iload_n 1, 1), (60, .i2l, 1), (61, .lrem, 1), (62, .lmul, 1), (63, .iload_n 1, 1), (64, .i2l, 1), (65, .lcmp, 1), (66, .ifCond .le 9, 3), (69, .lload 7, 2), (71, .lconst 1, 1), (72, .ladd, 1), (73, .lstore 7, 2), (75, .iload 4, 2), (77, .bipush 23, 2), (79, .ishl, 1), (80, .lload 7, 2), (82, .ldc2_w 259, 3), (85, .lsub, 1), (86, .l2i, 1), (87, .iadd, 1), (88, .ireturn, 1)]
theorem dX6_floatBits : iX6_floatBits.all (fun q => decide (decode cX6_floatBits q.1 = .ok q.2)) = true := by decide +kernel
abbrev cX6_share : ByteArray := prog_1_method_12_code
def yX6_share : MethodName := ⟨"PointAnswers", "share", "(I)I"⟩
abbrev wsX6_share : List Cond := .code yX6_share cX6_share 3 (some .int) :: wT
def iX6_share : List (Nat × Instr × Nat) := [(0, .iload_n 1, 1), (1, .ifCond .eq 10, 3), (4, .iload_n 1, 1), (5, .iconst 1, 1), (6, .if_icmp .eq 5, 3), (9, .iconst (-1), 1), (10, .ireturn, 1), (11, .aload_n 0, 1), (12, .getfield 12, 3), (15, .invokevirtual 131, 3), (18, .aload_n 0, 1), (19, .getfield 12, 3), (22, .iload_n 1, 1), (23, .invokevirtual 169, 3), (26, .iand, 1), (27, .istore_n 2, 1), (28, .iload_n 2, 1), (29, .ifCond .ne 6, 3), (32, .bipush (-6), 2), (34, .ireturn, 1), (35, .iload_n 2, 1), (36, .aload_n 0, 1), (37, .getfield 12, 3), (40, .invokevirtual 101, 3), (43, .iand, 1), (44, .invokestatic 134, 3), (47, .iload_n 2, 1), (48, .invokestatic 134, 3), (51, .invokestatic 172, 3), (54, .ireturn, 1)]
theorem dX6_share : iX6_share.all (fun q => decide (decode cX6_share q.1 = .ok q.2)) = true := by decide +kernel
abbrev cX6_toFall : ByteArray := prog_1_method_13_code
def yX6_toFall : MethodName := ⟨"PointAnswers", "toFall", "(I)I"⟩
abbrev wsX6_toFall : List Cond := .code yX6_toFall cX6_toFall 2 (some .int) :: wT
def iX6_toFall : List (Nat × Instr × Nat) := [(0, .aload_n 0, 1), (1, .getfield 12, 3), (4, .iload_n 1, 1), (5, .invokevirtual 79, 3), (8, .ifnonnull 5, 3), (11, .iconst (-1), 1), (12, .ireturn, 1), (13, .aload_n 0, 1), (14, .getfield 19, 3), (17, .aload_n 0, 1), (18, .getfield 12, 3), (21, .invokevirtual 175, 3), (24, .aload_n 0, 1), (25, .getfield 19, 3), (28, .iload_n 1, 1), (29, .invokevirtual 178, 3), (32, .ireturn, 1)]
theorem dX6_toFall : iX6_toFall.all (fun q => decide (decode cX6_toFall q.1 = .ok q.2)) = true := by decide +kernel
abbrev cX6_toStand : ByteArray := prog_1_method_14_code
def yX6_toStand : MethodName := ⟨"PointAnswers", "toStand", "(I)I"⟩
abbrev wsX6_toStand : List Cond := .code yX6_toStand cX6_toStand 2 (some .int) :: wT
def iX6_toStand : List (Nat × Instr × Nat) := [(0, .aload_n 0, 1), (1, .getfield 12, 3), (4, .iload_n 1, 1), (5, .invokevirtual 79, 3), (8, .ifnonnull 5, 3), (11, .iconst (-1), 1), (12, .ireturn, 1), (13, .aload_n 0, 1), (14, .getfield 12, 3), (17, .invokevirtual 139, 3), (20, .iload_n 1, 1), (21, .invokestatic 105, 3), (24, .ifCond .eq 6, 3), (27, .bipush (-5), 2), (29, .ireturn, 1), (30, .aload_n 0, 1), (31, .getfield 19, 3), (34, .aload_n 0, 1), (35, .getfield 12, 3), (38, .invokevirtual 175, 3), (41, .aload_n 0, 1), (42, .getfield 19, 3), (45, .iload_n 1, 1), (46, .invokevirtual 181, 3), (49, .ireturn, 1)]
theorem dX6_toStand : iX6_toStand.all (fun q => decide (decode cX6_toStand q.1 = .ok q.2)) = true := by decide +kernel
abbrev cX6_bestAnswer : ByteArray := prog_1_method_15_code
def yX6_bestAnswer : MethodName := ⟨"PointAnswers", "bestAnswer", "(I)I"⟩
abbrev wsX6_bestAnswer : List Cond := .code yX6_bestAnswer cX6_bestAnswer 9 (some .int) :: wT
def iX6_bestAnswer : List (Nat × Instr × Nat) := [(0, .iload_n 1, 1), (1, .ifCond .eq 11, 3), (4, .iload_n 1, 1), (5, .iconst 1, 1), (6, .if_icmp .eq 6, 3), (9, .bipush (-2), 2), (11, .ireturn, 1), (12, .bipush (-6), 2), (14, .istore_n 2, 1), (15, .bipush (-6), 2), (17, .istore_n 3, 1), (18, .aload_n 0, 1), (19, .getfield 12, 3), (22, .invokevirtual 139, 3), (25, .istore 4, 2), (27, .aload_n 0, 1), (28, .getfield 12, 3), (31, .iload 4, 2), (33, .iconst 0, 1), (34, .invokevirtual 184, 3), (37, .istore 5, 2), (39, .aload_n 0, 1), (40, .getfield 12, 3), (43, .invokevirtual 187, 3), (46, .iload 4, 2), (48, .iconst (-1), 1), (49, .ixor, 1), (50, .iand, 1), (51, .istore 6, 2), (53, .iconst 0, 1), (54, .istore 7, 2), (56, .iload 7, 2), (58, .bipush 24, 2), (60, .if_icmp .ge 60, 3), (63, .iload 6, 2), (65, .iload 7, 2), (67, .invokestatic 105, 3), (70, .ifCond .eq 44, 3), (73, .aload_n 0, 1), (74, .getfield 12, 3), (77, .iload 4, 2), (79, .iconst 1, 1), (80, .iload 7, 2), (82, .ishl, 1), (83, .invokevirtual 184, 3), (86, .iload 5, 2), (88, .ixor, 1), (89, .aload_n 0, 1), (90, .getfield 12, 3), (93, .invokevirtual 131, 3), (96, .iand, 1), (97, .invokestatic 134, 3), (100, .istore 8, 2), (102, .iload 8, 2), (104, .iload_n 3, 1), (105, .if_icmp .le 9, 3), (108, .iload 7, 2), (110, .istore_n 2, 1), (111, .iload 8, 2), (113, .istore_n 3, 1), (114, .iinc 7 1, 3), (117, .goto (-61), 3), (120, .iload_n 1, 1), (121, .ifCond .ne 7, 3), (124, .iload_n 2, 1), (125, .goto 4, 3), (128, .iload_n 3, 1), (129, .ireturn, 1)]
theorem dX6_bestAnswer : iX6_bestAnswer.all (fun q => decide (decode cX6_bestAnswer q.1 = .ok q.2)) = true := by decide +kernel
abbrev cX6_changesIn : ByteArray := prog_1_method_16_code
def yX6_changesIn : MethodName := ⟨"PointAnswers", "changesIn", "()I"⟩
abbrev wsX6_changesIn : List Cond := .code yX6_changesIn cX6_changesIn 4 (some .int) :: wT
def iX6_changesIn : List (Nat × Instr × Nat) := [(0, .aload_n 0, 1), (1, .getfield 12, 3), (4, .invokevirtual 145, 3), (7, .aload_n 0, 1), (8, .getfield 12, 3), (11, .invokevirtual 148, 3), (14, .ior, 1), (15, .aload_n 0, 1), (16, .getfield 12, 3), (19, .invokevirtual 190, 3), (22, .ior, 1), (23, .istore_n 1, 1), (24, .aload_n 0, 1), (25, .getfield 12, 3), (28, .invokevirtual 101, 3), (31, .istore_n 2, 1), (32, .iconst 1, 1), (33, .istore_n 3, 1), (34, .iload_n 3, 1), (35, .bipush 61, 2), (37, .if_icmp .gt 41, 3), (40, .aload_n 0, 1), (41, .getfield 12, 3), (44, .iload_n 1, 1), (45, .aload_n 0, 1), (46, .getfield 12, 3), (49, .aload_n 0, 1), (50, .getfield 12, 3), (53, .getfield 125, 3), (56, .iload_n 3, 1), (57, .iadd, 1), (58, .invokevirtual 193, 3), (61, .ior, 1), (62, .iconst 0, 1), (63, .invokevirtual 184, 3), (66, .iload_n 2, 1), (67, .if_icmp .eq 5, 3), (70, .iload_n 3, 1), (71, .ireturn, 1), (72, .iinc 3 1, 3), (75, .goto (-41), 3), (78, .bipush (-6), 2), (80, .ireturn, 1)]
theorem dX6_changesIn : iX6_changesIn.all (fun q => decide (decode cX6_changesIn q.1 = .ok q.2)) = true := by decide +kernel
abbrev cX6_leastPages : ByteArray := prog_1_method_17_code
def yX6_leastPages : MethodName := ⟨"PointAnswers", "leastPages", "()I"⟩
abbrev wsX6_leastPages : List Cond := .code yX6_leastPages cX6_leastPages 3 (some .int) :: wT
def iX6_leastPages : List (Nat × Instr × Nat) := [(0, .aload_n 0, 1), (1, .getfield 12, 3), (4, .invokevirtual 145, 3), (7, .istore_n 1, 1), (8, .iconst 1, 1), (9, .aload_n 0, 1), (10, .getfield 12, 3), (13, .iconst 0, 1), (14, .iload_n 1, 1), (15, .invokevirtual 151, 3), (18, .aload_n 0, 1), (19, .getfield 12, 3), (22, .iconst 1, 1), (23, .iload_n 1, 1), (24, .invokevirtual 151, 3), (27, .invokestatic 196, 3), (30, .invokestatic 196, 3), (33, .istore_n 2, 1), (34, .iload_n 2, 1), (35, .bipush 99, 2), (37, .if_icmp .le 8, 3), (40, .bipush (-6), 2), (42, .goto 4, 3), (45, .iload_n 2, 1), (46, .ireturn, 1)]
theorem dX6_leastPages : iX6_leastPages.all (fun q => decide (decode cX6_leastPages q.1 = .ok q.2)) = true := by decide +kernel
abbrev cJ9_max_7cf53 : ByteArray := prog_11_method_65_code
def yJ9_max_7cf53 : MethodName := ⟨"java/lang/Math", "max", "(II)I"⟩
abbrev wsJ9_max_7cf53 : List Cond := .code yJ9_max_7cf53 cJ9_max_7cf53 2 (some .int) :: wT
def iJ9_max_7cf53 : List (Nat × Instr × Nat) := [(0, .iload_n 0, 1), (1, .iload_n 1, 1), (2, .if_icmp .lt 7, 3), (5, .iload_n 0, 1), (6, .goto 4, 3), (9, .iload_n 1, 1), (10, .ireturn, 1)]
theorem dJ9_max_7cf53 : iJ9_max_7cf53.all (fun q => decide (decode cJ9_max_7cf53 q.1 = .ok q.2)) = true := by decide +kernel
abbrev cJ9_min_7cf53 : ByteArray := prog_11_method_69_code
def yJ9_min_7cf53 : MethodName := ⟨"java/lang/Math", "min", "(II)I"⟩
abbrev wsJ9_min_7cf53 : List Cond := .code yJ9_min_7cf53 cJ9_min_7cf53 2 (some .int) :: wT
def iJ9_min_7cf53 : List (Nat × Instr × Nat) := [(0, .iload_n 0, 1), (1, .iload_n 1, 1), (2, .if_icmp .gt 7, 3), (5, .iload_n 0, 1), (6, .goto 4, 3), (9, .iload_n 1, 1), (10, .ireturn, 1)]
theorem dJ9_min_7cf53 : iJ9_min_7cf53.all (fun q => decide (decode cJ9_min_7cf53 q.1 = .ok q.2)) = true := by decide +kernel
theorem tw_0 : Cond.selects "PointAnswers$History" ⟨"PointAnswers$History", "prepare", "(LPointAnswers$Bundle;)V"⟩ ⟨"PointAnswers$History", "prepare", "(LPointAnswers$Bundle;)V"⟩ ∈ wT := tw 0 (by decide +kernel) rfl
theorem tw_1 : Cond.selects "PointAnswers$History" ⟨"PointAnswers$History", "rowAt", "(I)LPointAnswers$Bundle;"⟩ ⟨"PointAnswers$History", "rowAt", "(I)LPointAnswers$Bundle;"⟩ ∈ wT := tw 1 (by decide +kernel) rfl
theorem tw_2 : Cond.selects "PointAnswers$Bundle" ⟨"PointAnswers$Bundle", "become", "(LPointAnswers$Bundle;)V"⟩ ⟨"PointAnswers$Bundle", "become", "(LPointAnswers$Bundle;)V"⟩ ∈ wT := tw 2 (by decide +kernel) rfl
theorem tw_3 : Cond.selects "PointAnswers$Bundle" ⟨"PointAnswers$Bundle", "find", "(I)LPointAnswers$Point;"⟩ ⟨"PointAnswers$Bundle", "find", "(I)LPointAnswers$Point;"⟩ ∈ wT := tw 3 (by decide +kernel) rfl
theorem tw_4 : Cond.selects "PointAnswers$Point" ⟨"PointAnswers$Point", "become", "(LPointAnswers$Point;)V"⟩ ⟨"PointAnswers$Point", "become", "(LPointAnswers$Point;)V"⟩ ∈ wT := tw 4 (by decide +kernel) rfl
theorem tw_5 : Cond.selects "PointAnswers$Bundle" ⟨"PointAnswers$Bundle", "adjust", "(II)I"⟩ ⟨"PointAnswers$Bundle", "adjust", "(II)I"⟩ ∈ wT := tw 5 (by decide +kernel) rfl
theorem tw_6 : Cond.selects "PointAnswers$History" ⟨"PointAnswers$History", "settle", "(I)I"⟩ ⟨"PointAnswers$History", "settle", "(I)I"⟩ ∈ wT := tw 6 (by decide +kernel) rfl
theorem tw_7 : Cond.selects "PointAnswers$History" ⟨"PointAnswers$History", "dropOldest", "()V"⟩ ⟨"PointAnswers$History", "dropOldest", "()V"⟩ ∈ wT := tw 7 (by decide +kernel) rfl
theorem tw_8 : Cond.selects "PointAnswers$Bundle" ⟨"PointAnswers$Bundle", "fileClaim", "(III)I"⟩ ⟨"PointAnswers$Bundle", "fileClaim", "(III)I"⟩ ∈ wT := tw 8 (by decide +kernel) rfl
theorem tw_9 : Cond.selects "PointAnswers$Bundle" ⟨"PointAnswers$Bundle", "file", "(IIII)I"⟩ ⟨"PointAnswers$Bundle", "file", "(IIII)I"⟩ ∈ wT := tw 9 (by decide +kernel) rfl
theorem tw_10 : Cond.selects "PointAnswers$Bundle" ⟨"PointAnswers$Bundle", "freeRow", "()LPointAnswers$Point;"⟩ ⟨"PointAnswers$Bundle", "freeRow", "()LPointAnswers$Point;"⟩ ∈ wT := tw 10 (by decide +kernel) rfl
theorem tw_11 : Cond.selects "PointAnswers$Bundle" ⟨"PointAnswers$Bundle", "fileAnswer", "(III)I"⟩ ⟨"PointAnswers$Bundle", "fileAnswer", "(III)I"⟩ ∈ wT := tw 11 (by decide +kernel) rfl
theorem tw_12 : Cond.selects "PointAnswers$Bundle" ⟨"PointAnswers$Bundle", "takeBack", "(I)I"⟩ ⟨"PointAnswers$Bundle", "takeBack", "(I)I"⟩ ∈ wT := tw 12 (by decide +kernel) rfl
theorem tw_13 : Cond.selects "PointAnswers$Bundle" ⟨"PointAnswers$Bundle", "standing", "()I"⟩ ⟨"PointAnswers$Bundle", "standing", "()I"⟩ ∈ wT := tw 13 (by decide +kernel) rfl
theorem tw_14 : Cond.selects "PointAnswers$Bundle" ⟨"PointAnswers$Bundle", "out", "()I"⟩ ⟨"PointAnswers$Bundle", "out", "()I"⟩ ∈ wT := tw 14 (by decide +kernel) rfl
theorem tw_15 : Cond.selects "PointAnswers$Bundle" ⟨"PointAnswers$Bundle", "withdrawn", "()I"⟩ ⟨"PointAnswers$Bundle", "withdrawn", "()I"⟩ ∈ wT := tw 15 (by decide +kernel) rfl
theorem tw_16 : Cond.selects "PointAnswers$Bundle" ⟨"PointAnswers$Bundle", "struck", "()I"⟩ ⟨"PointAnswers$Bundle", "struck", "()I"⟩ ∈ wT := tw 16 (by decide +kernel) rfl
theorem tw_17 : Cond.selects "PointAnswers$Bundle" ⟨"PointAnswers$Bundle", "lapsedOn", "(I)I"⟩ ⟨"PointAnswers$Bundle", "lapsedOn", "(I)I"⟩ ∈ wT := tw 17 (by decide +kernel) rfl
theorem tw_18 : Cond.selects "PointAnswers$Bundle" ⟨"PointAnswers$Bundle", "baseless", "()I"⟩ ⟨"PointAnswers$Bundle", "baseless", "()I"⟩ ∈ wT := tw 18 (by decide +kernel) rfl
theorem tw_19 : Cond.selects "PointAnswers$Bundle" ⟨"PointAnswers$Bundle", "standingIf", "(II)I"⟩ ⟨"PointAnswers$Bundle", "standingIf", "(II)I"⟩ ∈ wT := tw 19 (by decide +kernel) rfl
theorem tw_20 : Cond.selects "PointAnswers$Bundle" ⟨"PointAnswers$Bundle", "targetOf", "(I)I"⟩ ⟨"PointAnswers$Bundle", "targetOf", "(I)I"⟩ ∈ wT := tw 20 (by decide +kernel) rfl
theorem tw_21 : Cond.selects "PointAnswers$Bundle" ⟨"PointAnswers$Bundle", "prolong", "(I)I"⟩ ⟨"PointAnswers$Bundle", "prolong", "(I)I"⟩ ∈ wT := tw 21 (by decide +kernel) rfl
theorem tw_22 : Cond.selects "PointAnswers$Bundle" ⟨"PointAnswers$Bundle", "turnCase", "(I)I"⟩ ⟨"PointAnswers$Bundle", "turnCase", "(I)I"⟩ ∈ wT := tw 22 (by decide +kernel) rfl
theorem tw_23 : Cond.selects "PointAnswers$Bundle" ⟨"PointAnswers$Bundle", "moveOn", "(I)I"⟩ ⟨"PointAnswers$Bundle", "moveOn", "(I)I"⟩ ∈ wT := tw 23 (by decide +kernel) rfl
theorem tw_24 : Cond.selects "PointAnswers$Bundle" ⟨"PointAnswers$Bundle", "reasonAgainst", "(I)I"⟩ ⟨"PointAnswers$Bundle", "reasonAgainst", "(I)I"⟩ ∈ wT := tw 24 (by decide +kernel) rfl
theorem tw_25 : Cond.selects "PointAnswers$Bundle" ⟨"PointAnswers$Bundle", "answersTo", "(I)I"⟩ ⟨"PointAnswers$Bundle", "answersTo", "(I)I"⟩ ∈ wT := tw 25 (by decide +kernel) rfl
theorem tw_26 : Cond.selects "PointAnswers$Bundle" ⟨"PointAnswers$Bundle", "depthOf", "(I)I"⟩ ⟨"PointAnswers$Bundle", "depthOf", "(I)I"⟩ ∈ wT := tw 26 (by decide +kernel) rfl
theorem tw_27 : Cond.selects "PointAnswers$Bundle" ⟨"PointAnswers$Bundle", "daysLeft", "(LPointAnswers$Point;)I"⟩ ⟨"PointAnswers$Bundle", "daysLeft", "(LPointAnswers$Point;)I"⟩ ∈ wT := tw 27 (by decide +kernel) rfl
theorem tw_28 : Cond.selects "PointAnswers$Bundle" ⟨"PointAnswers$Bundle", "claims", "()I"⟩ ⟨"PointAnswers$Bundle", "claims", "()I"⟩ ∈ wT := tw 28 (by decide +kernel) rfl
theorem tw_29 : Cond.selects "PointAnswers$Bundle" ⟨"PointAnswers$Bundle", "answered", "()I"⟩ ⟨"PointAnswers$Bundle", "answered", "()I"⟩ ∈ wT := tw 29 (by decide +kernel) rfl
theorem tw_30 : Cond.selects "PointAnswers$Bundle" ⟨"PointAnswers$Bundle", "all", "()I"⟩ ⟨"PointAnswers$Bundle", "all", "()I"⟩ ∈ wT := tw 30 (by decide +kernel) rfl
theorem tw_31 : Cond.selects "PointAnswers$Bundle" ⟨"PointAnswers$Bundle", "pagesOf", "(II)I"⟩ ⟨"PointAnswers$Bundle", "pagesOf", "(II)I"⟩ ∈ wT := tw 31 (by decide +kernel) rfl
theorem tw_32 : Cond.selects "PointAnswers$Bundle" ⟨"PointAnswers$Bundle", "ofSide", "(I)I"⟩ ⟨"PointAnswers$Bundle", "ofSide", "(I)I"⟩ ∈ wT := tw 32 (by decide +kernel) rfl
theorem tw_33 : Cond.selects "PointAnswers$Bundle" ⟨"PointAnswers$Bundle", "withoutAnswers", "()I"⟩ ⟨"PointAnswers$Bundle", "withoutAnswers", "()I"⟩ ∈ wT := tw 33 (by decide +kernel) rfl
theorem tw_34 : Cond.selects "PointAnswers$Costs" ⟨"PointAnswers$Costs", "weigh", "(LPointAnswers$Bundle;)V"⟩ ⟨"PointAnswers$Costs", "weigh", "(LPointAnswers$Bundle;)V"⟩ ∈ wT := tw 34 (by decide +kernel) rfl
theorem tw_35 : Cond.selects "PointAnswers$Costs" ⟨"PointAnswers$Costs", "addToTarget", "(III)V"⟩ ⟨"PointAnswers$Costs", "addToTarget", "(III)V"⟩ ∈ wT := tw 35 (by decide +kernel) rfl
theorem tw_36 : Cond.selects "PointAnswers$Costs" ⟨"PointAnswers$Costs", "answersToFall", "(I)I"⟩ ⟨"PointAnswers$Costs", "answersToFall", "(I)I"⟩ ∈ wT := tw 36 (by decide +kernel) rfl
theorem tw_37 : Cond.selects "PointAnswers$Costs" ⟨"PointAnswers$Costs", "answersToStand", "(I)I"⟩ ⟨"PointAnswers$Costs", "answersToStand", "(I)I"⟩ ∈ wT := tw 37 (by decide +kernel) rfl
theorem tw_38 : Cond.initialized "PointAnswersLaw" ∈ wT := tw 38 (by decide +kernel) rfl
theorem tw_39 : Cond.initialized "PointAnswers" ∈ wT := tw 39 (by decide +kernel) rfl
theorem tw_40 : Cond.initialized "PointAnswers$Bundle" ∈ wT := tw 40 (by decide +kernel) rfl
theorem tw_41 : Cond.initialized "PointAnswers$Point" ∈ wT := tw 41 (by decide +kernel) rfl
theorem tw_42 : Cond.initialized "PointAnswers$Costs" ∈ wT := tw 42 (by decide +kernel) rfl
theorem tw_43 : Cond.initialized "PointAnswers$Pad" ∈ wT := tw 43 (by decide +kernel) rfl
theorem tw_44 : Cond.initialized "PointAnswers$Reader" ∈ wT := tw 44 (by decide +kernel) rfl
theorem tw_45 : Cond.initialized "PointAnswers$History" ∈ wT := tw 45 (by decide +kernel) rfl
theorem tw_46 : Cond.initialized "java/lang/Integer" ∈ wT := tw 46 (by decide +kernel) rfl
theorem tw_47 : Cond.initialized "java/lang/Math" ∈ wT := tw 47 (by decide +kernel) rfl
theorem tw_48 : Cond.classLink "PointAnswersLaw" 15 "PointAnswers" ∈ wT := tw 48 (by decide +kernel) rfl
theorem tw_49 : Cond.instantiable "PointAnswers" 7 ∈ wT := tw 49 (by decide +kernel) rfl
theorem tw_50 : Cond.methodLink "PointAnswersLaw" 58 ⟨"PointAnswers", "<init>", "()V"⟩ ∈ wT := tw 50 (by decide +kernel) rfl
theorem tw_51 : Cond.instanceMethod ⟨"PointAnswers", "<init>", "()V"⟩ ∈ wT := tw 51 (by decide +kernel) rfl
theorem tw_52 : Cond.code ⟨"PointAnswers", "<init>", "()V"⟩ prog_1_method_1_code 2 none ∈ wT := tw 52 (by decide +kernel) rfl
theorem tw_53 : Cond.methodLink "PointAnswers" 3 ⟨"java/lang/Object", "<init>", "()V"⟩ ∈ wT := tw 53 (by decide +kernel) rfl
theorem tw_54 : Cond.instanceMethod ⟨"java/lang/Object", "<init>", "()V"⟩ ∈ wT := tw 54 (by decide +kernel) rfl
theorem tw_55 : Cond.code ⟨"java/lang/Object", "<init>", "()V"⟩ object_method_1_code 1 none ∈ wT := tw 55 (by decide +kernel) rfl
theorem tw_56 : Cond.classLink "PointAnswers" 9 "PointAnswers$Bundle" ∈ wT := tw 56 (by decide +kernel) rfl
theorem tw_57 : Cond.instantiable "PointAnswers$Bundle" 6 ∈ wT := tw 57 (by decide +kernel) rfl
theorem tw_59 : Cond.instanceMethod ⟨"PointAnswers$Bundle", "<init>", "()V"⟩ ∈ wT := tw 59 (by decide +kernel) rfl
theorem tw_60 : Cond.code ⟨"PointAnswers$Bundle", "<init>", "()V"⟩ prog_2_method_1_code 2 none ∈ wT := tw 60 (by decide +kernel) rfl
theorem tw_61 : Cond.methodLink "PointAnswers$Bundle" 3 ⟨"java/lang/Object", "<init>", "()V"⟩ ∈ wT := tw 61 (by decide +kernel) rfl
theorem tw_62 : Cond.classLink "PointAnswers$Bundle" 9 "PointAnswers$Point" ∈ wT := tw 62 (by decide +kernel) rfl
theorem tw_64 : Cond.instantiable "PointAnswers$Point" 7 ∈ wT := tw 64 (by decide +kernel) rfl
theorem tw_66 : Cond.instanceMethod ⟨"PointAnswers$Point", "<init>", "()V"⟩ ∈ wT := tw 66 (by decide +kernel) rfl
theorem tw_67 : Cond.code ⟨"PointAnswers$Point", "<init>", "()V"⟩ prog_6_method_1_code 1 none ∈ wT := tw 67 (by decide +kernel) rfl
theorem tw_68 : Cond.methodLink "PointAnswers$Point" 1 ⟨"java/lang/Object", "<init>", "()V"⟩ ∈ wT := tw 68 (by decide +kernel) rfl
theorem tw_69 : Cond.fieldLink "PointAnswers$Point" 7 "PointAnswers$Point" "side" "I" ∈ wT := tw 69 (by decide +kernel) rfl
theorem tw_72 : Cond.fieldLink "PointAnswers$Point" 13 "PointAnswers$Point" "pages" "I" ∈ wT := tw 72 (by decide +kernel) rfl
theorem tw_75 : Cond.fieldLink "PointAnswers$Point" 16 "PointAnswers$Point" "cases" "I" ∈ wT := tw 75 (by decide +kernel) rfl
theorem tw_78 : Cond.fieldLink "PointAnswers$Point" 19 "PointAnswers$Point" "target" "I" ∈ wT := tw 78 (by decide +kernel) rfl
theorem tw_82 : Cond.fieldLink "PointAnswers$Point" 22 "PointAnswers$Point" "filed" "I" ∈ wT := tw 82 (by decide +kernel) rfl
theorem tw_85 : Cond.fieldLink "PointAnswers$Point" 25 "PointAnswers$Point" "lastsFrom" "I" ∈ wT := tw 85 (by decide +kernel) rfl
theorem tw_87 : Cond.fieldLink "PointAnswers$Point" 28 "PointAnswers$Point" "withdrawn" "Z" ∈ wT := tw 87 (by decide +kernel) rfl
theorem tw_104 : Cond.fieldLink "PointAnswers$Bundle" 11 "PointAnswers$Bundle" "rows" "[LPointAnswers$Point;" ∈ wT := tw 104 (by decide +kernel) rfl
theorem tw_105 : Cond.fieldLink "PointAnswers$Bundle" 25 "PointAnswers$Bundle" "size" "I" ∈ wT := tw 105 (by decide +kernel) rfl
theorem tw_107 : Cond.fieldLink "PointAnswers$Bundle" 28 "PointAnswers$Bundle" "day" "I" ∈ wT := tw 107 (by decide +kernel) rfl
theorem tw_109 : Cond.fieldLink "PointAnswers$Bundle" 31 "PointAnswers$Bundle" "overruled" "I" ∈ wT := tw 109 (by decide +kernel) rfl
theorem tw_111 : Cond.fieldLink "PointAnswers$Bundle" 17 "PointAnswers$Bundle" "lapse" "I" ∈ wT := tw 111 (by decide +kernel) rfl
theorem tw_113 : Cond.fieldLink "PointAnswers$Bundle" 21 "PointAnswers$Bundle" "allowedPages" "I" ∈ wT := tw 113 (by decide +kernel) rfl
theorem tw_128 : Cond.classLink "PointAnswers" 16 "PointAnswers$Costs" ∈ wT := tw 128 (by decide +kernel) rfl
theorem tw_129 : Cond.instantiable "PointAnswers$Costs" 2 ∈ wT := tw 129 (by decide +kernel) rfl
theorem tw_131 : Cond.instanceMethod ⟨"PointAnswers$Costs", "<init>", "()V"⟩ ∈ wT := tw 131 (by decide +kernel) rfl
theorem tw_132 : Cond.code ⟨"PointAnswers$Costs", "<init>", "()V"⟩ prog_3_method_1_code 1 none ∈ wT := tw 132 (by decide +kernel) rfl
theorem tw_133 : Cond.methodLink "PointAnswers$Costs" 3 ⟨"java/lang/Object", "<init>", "()V"⟩ ∈ wT := tw 133 (by decide +kernel) rfl
theorem tw_134 : Cond.fieldLink "PointAnswers$Costs" 9 "PointAnswers$Costs" "fall" "[I" ∈ wT := tw 134 (by decide +kernel) rfl
theorem tw_135 : Cond.fieldLink "PointAnswers$Costs" 15 "PointAnswers$Costs" "stand" "[I" ∈ wT := tw 135 (by decide +kernel) rfl
theorem tw_141 : Cond.arrayClass .int ∈ wT := tw 141 (by decide +kernel) rfl
theorem tw_142 : Cond.classLink "PointAnswers" 23 "PointAnswers$Pad" ∈ wT := tw 142 (by decide +kernel) rfl
theorem tw_143 : Cond.instantiable "PointAnswers$Pad" 2 ∈ wT := tw 143 (by decide +kernel) rfl
theorem tw_145 : Cond.instanceMethod ⟨"PointAnswers$Pad", "<init>", "()V"⟩ ∈ wT := tw 145 (by decide +kernel) rfl
theorem tw_146 : Cond.code ⟨"PointAnswers$Pad", "<init>", "()V"⟩ prog_5_method_1_code 1 none ∈ wT := tw 146 (by decide +kernel) rfl
theorem tw_147 : Cond.methodLink "PointAnswers$Pad" 3 ⟨"java/lang/Object", "<init>", "()V"⟩ ∈ wT := tw 147 (by decide +kernel) rfl
theorem tw_148 : Cond.fieldLink "PointAnswers$Pad" 9 "PointAnswers$Pad" "signs" "[C" ∈ wT := tw 148 (by decide +kernel) rfl
theorem tw_155 : Cond.arrayClass .char ∈ wT := tw 155 (by decide +kernel) rfl
theorem tw_156 : Cond.classLink "PointAnswers" 30 "PointAnswers$Reader" ∈ wT := tw 156 (by decide +kernel) rfl
theorem tw_157 : Cond.instantiable "PointAnswers$Reader" 6 ∈ wT := tw 157 (by decide +kernel) rfl
theorem tw_159 : Cond.instanceMethod ⟨"PointAnswers$Reader", "<init>", "()V"⟩ ∈ wT := tw 159 (by decide +kernel) rfl
theorem tw_160 : Cond.code ⟨"PointAnswers$Reader", "<init>", "()V"⟩ prog_7_method_1_code 1 none ∈ wT := tw 160 (by decide +kernel) rfl
theorem tw_161 : Cond.methodLink "PointAnswers$Reader" 3 ⟨"java/lang/Object", "<init>", "()V"⟩ ∈ wT := tw 161 (by decide +kernel) rfl
theorem tw_175 : Cond.classLink "PointAnswers" 37 "PointAnswers$History" ∈ wT := tw 175 (by decide +kernel) rfl
theorem tw_176 : Cond.instantiable "PointAnswers$History" 2 ∈ wT := tw 176 (by decide +kernel) rfl
theorem tw_178 : Cond.instanceMethod ⟨"PointAnswers$History", "<init>", "()V"⟩ ∈ wT := tw 178 (by decide +kernel) rfl
theorem tw_179 : Cond.code ⟨"PointAnswers$History", "<init>", "()V"⟩ prog_4_method_1_code 2 none ∈ wT := tw 179 (by decide +kernel) rfl
theorem tw_180 : Cond.methodLink "PointAnswers$History" 3 ⟨"java/lang/Object", "<init>", "()V"⟩ ∈ wT := tw 180 (by decide +kernel) rfl
theorem tw_181 : Cond.classLink "PointAnswers$History" 9 "PointAnswers$Bundle" ∈ wT := tw 181 (by decide +kernel) rfl
theorem tw_184 : Cond.fieldLink "PointAnswers$History" 11 "PointAnswers$History" "rows" "[LPointAnswers$Bundle;" ∈ wT := tw 184 (by decide +kernel) rfl
theorem tw_185 : Cond.fieldLink "PointAnswers$History" 18 "PointAnswers$History" "kept" "I" ∈ wT := tw 185 (by decide +kernel) rfl
theorem tw_192 : Cond.fieldLink "PointAnswers" 12 "PointAnswers" "now" "LPointAnswers$Bundle;" ∈ wT := tw 192 (by decide +kernel) rfl
theorem tw_193 : Cond.fieldLink "PointAnswers" 19 "PointAnswers" "costs" "LPointAnswers$Costs;" ∈ wT := tw 193 (by decide +kernel) rfl
theorem tw_194 : Cond.fieldLink "PointAnswers" 26 "PointAnswers" "pad" "LPointAnswers$Pad;" ∈ wT := tw 194 (by decide +kernel) rfl
theorem tw_195 : Cond.fieldLink "PointAnswers" 33 "PointAnswers" "reader" "LPointAnswers$Reader;" ∈ wT := tw 195 (by decide +kernel) rfl
theorem tw_196 : Cond.fieldLink "PointAnswers" 40 "PointAnswers" "history" "LPointAnswers$History;" ∈ wT := tw 196 (by decide +kernel) rfl
theorem tw_197 : Cond.fieldLink "PointAnswers" 44 "PointAnswers" "slots" "[LPointAnswers$Bundle;" ∈ wT := tw 197 (by decide +kernel) rfl
theorem tw_213 : Cond.methodLink "PointAnswersLaw" 85 ⟨"PointAnswers", "set", "(II)I"⟩ ∈ wT := tw 213 (by decide +kernel) rfl
theorem tw_214 : Cond.instanceMethod ⟨"PointAnswers", "set", "(II)I"⟩ ∈ wT := tw 214 (by decide +kernel) rfl
theorem tw_215 : Cond.selects "PointAnswers" ⟨"PointAnswers", "set", "(II)I"⟩ ⟨"PointAnswers", "set", "(II)I"⟩ ∈ wT := tw 215 (by decide +kernel) rfl
theorem tw_216 : Cond.code ⟨"PointAnswers", "set", "(II)I"⟩ prog_1_method_2_code 3 (some .int) ∈ wT := tw 216 (by decide +kernel) rfl
theorem tw_219 : Cond.instanceMethod ⟨"PointAnswers$History", "prepare", "(LPointAnswers$Bundle;)V"⟩ ∈ wT := tw 219 (by decide +kernel) rfl
theorem tw_220 : Cond.code ⟨"PointAnswers$History", "prepare", "(LPointAnswers$Bundle;)V"⟩ prog_4_method_3_code 3 none ∈ wT := tw 220 (by decide +kernel) rfl
theorem tw_221 : Cond.methodLink "PointAnswers$History" 22 ⟨"PointAnswers$History", "rowAt", "(I)LPointAnswers$Bundle;"⟩ ∈ wT := tw 221 (by decide +kernel) rfl
theorem tw_223 : Cond.instanceMethod ⟨"PointAnswers$History", "rowAt", "(I)LPointAnswers$Bundle;"⟩ ∈ wT := tw 223 (by decide +kernel) rfl
theorem tw_224 : Cond.code ⟨"PointAnswers$History", "rowAt", "(I)LPointAnswers$Bundle;"⟩ prog_4_method_2_code 2 (some (.object "PointAnswers$Bundle")) ∈ wT := tw 224 (by decide +kernel) rfl
theorem tw_227 : Cond.instanceMethod ⟨"PointAnswers$Bundle", "become", "(LPointAnswers$Bundle;)V"⟩ ∈ wT := tw 227 (by decide +kernel) rfl
theorem tw_228 : Cond.code ⟨"PointAnswers$Bundle", "become", "(LPointAnswers$Bundle;)V"⟩ prog_2_method_2_code 5 none ∈ wT := tw 228 (by decide +kernel) rfl
theorem tw_229 : Cond.methodLink "PointAnswers$Bundle" 34 ⟨"PointAnswers$Bundle", "find", "(I)LPointAnswers$Point;"⟩ ∈ wT := tw 229 (by decide +kernel) rfl
theorem tw_231 : Cond.instanceMethod ⟨"PointAnswers$Bundle", "find", "(I)LPointAnswers$Point;"⟩ ∈ wT := tw 231 (by decide +kernel) rfl
theorem tw_232 : Cond.code ⟨"PointAnswers$Bundle", "find", "(I)LPointAnswers$Point;"⟩ prog_2_method_3_code 2 (some (.object "PointAnswers$Point")) ∈ wT := tw 232 (by decide +kernel) rfl
theorem tw_235 : Cond.instanceMethod ⟨"PointAnswers$Point", "become", "(LPointAnswers$Point;)V"⟩ ∈ wT := tw 235 (by decide +kernel) rfl
theorem tw_236 : Cond.code ⟨"PointAnswers$Point", "become", "(LPointAnswers$Point;)V"⟩ prog_6_method_2_code 2 none ∈ wT := tw 236 (by decide +kernel) rfl
theorem tw_239 : Cond.instanceMethod ⟨"PointAnswers$Bundle", "adjust", "(II)I"⟩ ∈ wT := tw 239 (by decide +kernel) rfl
theorem tw_240 : Cond.code ⟨"PointAnswers$Bundle", "adjust", "(II)I"⟩ prog_2_method_5_code 4 (some .int) ∈ wT := tw 240 (by decide +kernel) rfl
theorem tw_243 : Cond.instanceMethod ⟨"PointAnswers$History", "settle", "(I)I"⟩ ∈ wT := tw 243 (by decide +kernel) rfl
theorem tw_244 : Cond.code ⟨"PointAnswers$History", "settle", "(I)I"⟩ prog_4_method_4_code 2 (some .int) ∈ wT := tw 244 (by decide +kernel) rfl
theorem tw_245 : Cond.methodLink "PointAnswers$History" 30 ⟨"PointAnswers$History", "dropOldest", "()V"⟩ ∈ wT := tw 245 (by decide +kernel) rfl
theorem tw_247 : Cond.instanceMethod ⟨"PointAnswers$History", "dropOldest", "()V"⟩ ∈ wT := tw 247 (by decide +kernel) rfl
theorem tw_248 : Cond.code ⟨"PointAnswers$History", "dropOldest", "()V"⟩ prog_4_method_5_code 3 none ∈ wT := tw 248 (by decide +kernel) rfl
theorem tw_249 : Cond.methodLink "PointAnswersLaw" 70 ⟨"PointAnswers", "claim", "(III)I"⟩ ∈ wT := tw 249 (by decide +kernel) rfl
theorem tw_250 : Cond.instanceMethod ⟨"PointAnswers", "claim", "(III)I"⟩ ∈ wT := tw 250 (by decide +kernel) rfl
theorem tw_251 : Cond.selects "PointAnswers" ⟨"PointAnswers", "claim", "(III)I"⟩ ⟨"PointAnswers", "claim", "(III)I"⟩ ∈ wT := tw 251 (by decide +kernel) rfl
theorem tw_252 : Cond.code ⟨"PointAnswers", "claim", "(III)I"⟩ prog_1_method_3_code 4 (some .int) ∈ wT := tw 252 (by decide +kernel) rfl
theorem tw_255 : Cond.instanceMethod ⟨"PointAnswers$Bundle", "fileClaim", "(III)I"⟩ ∈ wT := tw 255 (by decide +kernel) rfl
theorem tw_256 : Cond.code ⟨"PointAnswers$Bundle", "fileClaim", "(III)I"⟩ prog_2_method_6_code 4 (some .int) ∈ wT := tw 256 (by decide +kernel) rfl
theorem tw_257 : Cond.methodLink "PointAnswers$Bundle" 42 ⟨"PointAnswers$Bundle", "canBeFiled", "(II)Z"⟩ ∈ wT := tw 257 (by decide +kernel) rfl
theorem tw_258 : Cond.static ⟨"PointAnswers$Bundle", "canBeFiled", "(II)Z"⟩ ∈ wT := tw 258 (by decide +kernel) rfl
theorem tw_259 : Cond.code ⟨"PointAnswers$Bundle", "canBeFiled", "(II)Z"⟩ prog_2_method_8_code 2 (some .boolean) ∈ wT := tw 259 (by decide +kernel) rfl
theorem tw_260 : Cond.methodLink "PointAnswers$Bundle" 46 ⟨"PointAnswers$Bundle", "file", "(IIII)I"⟩ ∈ wT := tw 260 (by decide +kernel) rfl
theorem tw_262 : Cond.instanceMethod ⟨"PointAnswers$Bundle", "file", "(IIII)I"⟩ ∈ wT := tw 262 (by decide +kernel) rfl
theorem tw_263 : Cond.code ⟨"PointAnswers$Bundle", "file", "(IIII)I"⟩ prog_2_method_9_code 6 (some .int) ∈ wT := tw 263 (by decide +kernel) rfl
theorem tw_264 : Cond.methodLink "PointAnswers$Bundle" 50 ⟨"PointAnswers$Bundle", "freeRow", "()LPointAnswers$Point;"⟩ ∈ wT := tw 264 (by decide +kernel) rfl
theorem tw_266 : Cond.instanceMethod ⟨"PointAnswers$Bundle", "freeRow", "()LPointAnswers$Point;"⟩ ∈ wT := tw 266 (by decide +kernel) rfl
theorem tw_267 : Cond.code ⟨"PointAnswers$Bundle", "freeRow", "()LPointAnswers$Point;"⟩ prog_2_method_4_code 1 (some (.object "PointAnswers$Point")) ∈ wT := tw 267 (by decide +kernel) rfl
theorem tw_268 : Cond.methodLink "PointAnswersLaw" 66 ⟨"PointAnswers", "answer", "(III)I"⟩ ∈ wT := tw 268 (by decide +kernel) rfl
theorem tw_269 : Cond.instanceMethod ⟨"PointAnswers", "answer", "(III)I"⟩ ∈ wT := tw 269 (by decide +kernel) rfl
theorem tw_270 : Cond.selects "PointAnswers" ⟨"PointAnswers", "answer", "(III)I"⟩ ⟨"PointAnswers", "answer", "(III)I"⟩ ∈ wT := tw 270 (by decide +kernel) rfl
theorem tw_271 : Cond.code ⟨"PointAnswers", "answer", "(III)I"⟩ prog_1_method_4_code 4 (some .int) ∈ wT := tw 271 (by decide +kernel) rfl
theorem tw_274 : Cond.instanceMethod ⟨"PointAnswers$Bundle", "fileAnswer", "(III)I"⟩ ∈ wT := tw 274 (by decide +kernel) rfl
theorem tw_275 : Cond.code ⟨"PointAnswers$Bundle", "fileAnswer", "(III)I"⟩ prog_2_method_7_code 5 (some .int) ∈ wT := tw 275 (by decide +kernel) rfl
theorem tw_276 : Cond.methodLink "PointAnswersLaw" 73 ⟨"PointAnswers", "withdraw", "(I)I"⟩ ∈ wT := tw 276 (by decide +kernel) rfl
theorem tw_277 : Cond.instanceMethod ⟨"PointAnswers", "withdraw", "(I)I"⟩ ∈ wT := tw 277 (by decide +kernel) rfl
theorem tw_278 : Cond.selects "PointAnswers" ⟨"PointAnswers", "withdraw", "(I)I"⟩ ⟨"PointAnswers", "withdraw", "(I)I"⟩ ∈ wT := tw 278 (by decide +kernel) rfl
theorem tw_279 : Cond.code ⟨"PointAnswers", "withdraw", "(I)I"⟩ prog_1_method_5_code 2 (some .int) ∈ wT := tw 279 (by decide +kernel) rfl
theorem tw_282 : Cond.instanceMethod ⟨"PointAnswers$Bundle", "takeBack", "(I)I"⟩ ∈ wT := tw 282 (by decide +kernel) rfl
theorem tw_283 : Cond.code ⟨"PointAnswers$Bundle", "takeBack", "(I)I"⟩ prog_2_method_10_code 3 (some .int) ∈ wT := tw 283 (by decide +kernel) rfl
theorem tw_284 : Cond.methodLink "PointAnswers$Bundle" 76 ⟨"PointAnswers$Bundle", "standing", "()I"⟩ ∈ wT := tw 284 (by decide +kernel) rfl
theorem tw_286 : Cond.instanceMethod ⟨"PointAnswers$Bundle", "standing", "()I"⟩ ∈ wT := tw 286 (by decide +kernel) rfl
theorem tw_287 : Cond.code ⟨"PointAnswers$Bundle", "standing", "()I"⟩ prog_2_method_25_code 1 (some .int) ∈ wT := tw 287 (by decide +kernel) rfl
theorem tw_288 : Cond.methodLink "PointAnswers$Bundle" 109 ⟨"PointAnswers$Bundle", "out", "()I"⟩ ∈ wT := tw 288 (by decide +kernel) rfl
theorem tw_290 : Cond.instanceMethod ⟨"PointAnswers$Bundle", "out", "()I"⟩ ∈ wT := tw 290 (by decide +kernel) rfl
theorem tw_291 : Cond.code ⟨"PointAnswers$Bundle", "out", "()I"⟩ prog_2_method_24_code 1 (some .int) ∈ wT := tw 291 (by decide +kernel) rfl
theorem tw_292 : Cond.methodLink "PointAnswers$Bundle" 98 ⟨"PointAnswers$Bundle", "withdrawn", "()I"⟩ ∈ wT := tw 292 (by decide +kernel) rfl
theorem tw_294 : Cond.instanceMethod ⟨"PointAnswers$Bundle", "withdrawn", "()I"⟩ ∈ wT := tw 294 (by decide +kernel) rfl
theorem tw_295 : Cond.code ⟨"PointAnswers$Bundle", "withdrawn", "()I"⟩ prog_2_method_20_code 4 (some .int) ∈ wT := tw 295 (by decide +kernel) rfl
theorem tw_296 : Cond.methodLink "PointAnswers$Bundle" 100 ⟨"PointAnswers$Bundle", "struck", "()I"⟩ ∈ wT := tw 296 (by decide +kernel) rfl
theorem tw_298 : Cond.instanceMethod ⟨"PointAnswers$Bundle", "struck", "()I"⟩ ∈ wT := tw 298 (by decide +kernel) rfl
theorem tw_299 : Cond.code ⟨"PointAnswers$Bundle", "struck", "()I"⟩ prog_2_method_21_code 6 (some .int) ∈ wT := tw 299 (by decide +kernel) rfl
theorem tw_300 : Cond.methodLink "PointAnswers$Bundle" 103 ⟨"PointAnswers$Bundle", "lapsedOn", "(I)I"⟩ ∈ wT := tw 300 (by decide +kernel) rfl
theorem tw_302 : Cond.instanceMethod ⟨"PointAnswers$Bundle", "lapsedOn", "(I)I"⟩ ∈ wT := tw 302 (by decide +kernel) rfl
theorem tw_303 : Cond.code ⟨"PointAnswers$Bundle", "lapsedOn", "(I)I"⟩ prog_2_method_22_code 5 (some .int) ∈ wT := tw 303 (by decide +kernel) rfl
theorem tw_304 : Cond.methodLink "PointAnswers$Bundle" 106 ⟨"PointAnswers$Bundle", "baseless", "()I"⟩ ∈ wT := tw 304 (by decide +kernel) rfl
theorem tw_306 : Cond.instanceMethod ⟨"PointAnswers$Bundle", "baseless", "()I"⟩ ∈ wT := tw 306 (by decide +kernel) rfl
theorem tw_307 : Cond.code ⟨"PointAnswers$Bundle", "baseless", "()I"⟩ prog_2_method_23_code 4 (some .int) ∈ wT := tw 307 (by decide +kernel) rfl
theorem tw_308 : Cond.methodLink "PointAnswers$Bundle" 112 ⟨"PointAnswers$Bundle", "standingIf", "(II)I"⟩ ∈ wT := tw 308 (by decide +kernel) rfl
theorem tw_310 : Cond.instanceMethod ⟨"PointAnswers$Bundle", "standingIf", "(II)I"⟩ ∈ wT := tw 310 (by decide +kernel) rfl
theorem tw_311 : Cond.code ⟨"PointAnswers$Bundle", "standingIf", "(II)I"⟩ prog_2_method_27_code 6 (some .int) ∈ wT := tw 311 (by decide +kernel) rfl
theorem tw_313 : Cond.static ⟨"PointAnswers", "has", "(II)Z"⟩ ∈ wT := tw 313 (by decide +kernel) rfl
theorem tw_314 : Cond.code ⟨"PointAnswers", "has", "(II)Z"⟩ prog_1_method_27_code 2 (some .boolean) ∈ wT := tw 314 (by decide +kernel) rfl
theorem tw_315 : Cond.methodLink "PointAnswers$Bundle" 95 ⟨"PointAnswers$Bundle", "targetOf", "(I)I"⟩ ∈ wT := tw 315 (by decide +kernel) rfl
theorem tw_317 : Cond.instanceMethod ⟨"PointAnswers$Bundle", "targetOf", "(I)I"⟩ ∈ wT := tw 317 (by decide +kernel) rfl
theorem tw_318 : Cond.code ⟨"PointAnswers$Bundle", "targetOf", "(I)I"⟩ prog_2_method_18_code 3 (some .int) ∈ wT := tw 318 (by decide +kernel) rfl
theorem tw_319 : Cond.methodLink "PointAnswers$Bundle" 80 ⟨"java/lang/Integer", "bitCount", "(I)I"⟩ ∈ wT := tw 319 (by decide +kernel) rfl
theorem tw_320 : Cond.static ⟨"java/lang/Integer", "bitCount", "(I)I"⟩ ∈ wT := tw 320 (by decide +kernel) rfl
theorem tw_321 : Cond.code ⟨"java/lang/Integer", "bitCount", "(I)I"⟩ prog_10_method_49_code 1 (some .int) ∈ wT := tw 321 (by decide +kernel) rfl
theorem tw_322 : Cond.constant "java/lang/Integer" 265 (1431655765) ∈ wT := tw 322 (by decide +kernel) rfl
theorem tw_323 : Cond.constant "java/lang/Integer" 266 (858993459) ∈ wT := tw 323 (by decide +kernel) rfl
theorem tw_324 : Cond.constant "java/lang/Integer" 267 (252645135) ∈ wT := tw 324 (by decide +kernel) rfl
theorem tw_325 : Cond.methodLink "PointAnswersLaw" 76 ⟨"PointAnswers", "renew", "(I)I"⟩ ∈ wT := tw 325 (by decide +kernel) rfl
theorem tw_326 : Cond.instanceMethod ⟨"PointAnswers", "renew", "(I)I"⟩ ∈ wT := tw 326 (by decide +kernel) rfl
theorem tw_327 : Cond.selects "PointAnswers" ⟨"PointAnswers", "renew", "(I)I"⟩ ⟨"PointAnswers", "renew", "(I)I"⟩ ∈ wT := tw 327 (by decide +kernel) rfl
theorem tw_328 : Cond.code ⟨"PointAnswers", "renew", "(I)I"⟩ prog_1_method_6_code 2 (some .int) ∈ wT := tw 328 (by decide +kernel) rfl
theorem tw_331 : Cond.instanceMethod ⟨"PointAnswers$Bundle", "prolong", "(I)I"⟩ ∈ wT := tw 331 (by decide +kernel) rfl
theorem tw_332 : Cond.code ⟨"PointAnswers$Bundle", "prolong", "(I)I"⟩ prog_2_method_11_code 4 (some .int) ∈ wT := tw 332 (by decide +kernel) rfl
theorem tw_333 : Cond.methodLink "PointAnswersLaw" 79 ⟨"PointAnswers", "overrule", "(I)I"⟩ ∈ wT := tw 333 (by decide +kernel) rfl
theorem tw_334 : Cond.instanceMethod ⟨"PointAnswers", "overrule", "(I)I"⟩ ∈ wT := tw 334 (by decide +kernel) rfl
theorem tw_335 : Cond.selects "PointAnswers" ⟨"PointAnswers", "overrule", "(I)I"⟩ ⟨"PointAnswers", "overrule", "(I)I"⟩ ∈ wT := tw 335 (by decide +kernel) rfl
theorem tw_336 : Cond.code ⟨"PointAnswers", "overrule", "(I)I"⟩ prog_1_method_7_code 2 (some .int) ∈ wT := tw 336 (by decide +kernel) rfl
theorem tw_339 : Cond.instanceMethod ⟨"PointAnswers$Bundle", "turnCase", "(I)I"⟩ ∈ wT := tw 339 (by decide +kernel) rfl
theorem tw_340 : Cond.code ⟨"PointAnswers$Bundle", "turnCase", "(I)I"⟩ prog_2_method_12_code 2 (some .int) ∈ wT := tw 340 (by decide +kernel) rfl
theorem tw_341 : Cond.methodLink "PointAnswersLaw" 82 ⟨"PointAnswers", "pass", "(I)I"⟩ ∈ wT := tw 341 (by decide +kernel) rfl
theorem tw_342 : Cond.instanceMethod ⟨"PointAnswers", "pass", "(I)I"⟩ ∈ wT := tw 342 (by decide +kernel) rfl
theorem tw_343 : Cond.selects "PointAnswers" ⟨"PointAnswers", "pass", "(I)I"⟩ ⟨"PointAnswers", "pass", "(I)I"⟩ ∈ wT := tw 343 (by decide +kernel) rfl
theorem tw_344 : Cond.code ⟨"PointAnswers", "pass", "(I)I"⟩ prog_1_method_8_code 2 (some .int) ∈ wT := tw 344 (by decide +kernel) rfl
theorem tw_347 : Cond.instanceMethod ⟨"PointAnswers$Bundle", "moveOn", "(I)I"⟩ ∈ wT := tw 347 (by decide +kernel) rfl
theorem tw_348 : Cond.code ⟨"PointAnswers$Bundle", "moveOn", "(I)I"⟩ prog_2_method_13_code 2 (some .int) ∈ wT := tw 348 (by decide +kernel) rfl
theorem tw_349 : Cond.methodLink "PointAnswersLaw" 59 ⟨"PointAnswersLaw", "cell", "([II)I"⟩ ∈ wT := tw 349 (by decide +kernel) rfl
theorem tw_350 : Cond.static ⟨"PointAnswersLaw", "cell", "([II)I"⟩ ∈ wT := tw 350 (by decide +kernel) rfl
theorem tw_351 : Cond.code ⟨"PointAnswersLaw", "cell", "([II)I"⟩ method_2_code 2 (some .int) ∈ wT := tw 351 (by decide +kernel) rfl
theorem tw_352 : Cond.constant "PointAnswersLaw" 7 (32452867) ∈ wT := tw 352 (by decide +kernel) rfl
theorem tw_353 : Cond.constant "PointAnswersLaw" 8 (15485863) ∈ wT := tw 353 (by decide +kernel) rfl
theorem tw_354 : Cond.methodLink "PointAnswersLaw" 63 ⟨"PointAnswersLaw", "low", "(II)I"⟩ ∈ wT := tw 354 (by decide +kernel) rfl
theorem tw_355 : Cond.static ⟨"PointAnswersLaw", "low", "(II)I"⟩ ∈ wT := tw 355 (by decide +kernel) rfl
theorem tw_356 : Cond.code ⟨"PointAnswersLaw", "low", "(II)I"⟩ method_3_code 2 (some .int) ∈ wT := tw 356 (by decide +kernel) rfl
theorem tw_357 : Cond.constant "PointAnswersLaw" 9 (2147483647) ∈ wT := tw 357 (by decide +kernel) rfl
theorem tw_358 : Cond.methodLink "PointAnswersLaw" 38 ⟨"PointAnswersLaw", "reasons", "([I[I[I[I[I[I[I[II)V"⟩ ∈ wT := tw 358 (by decide +kernel) rfl
theorem tw_359 : Cond.static ⟨"PointAnswersLaw", "reasons", "([I[I[I[I[I[I[I[II)V"⟩ ∈ wT := tw 359 (by decide +kernel) rfl
theorem tw_360 : Cond.code ⟨"PointAnswersLaw", "reasons", "([I[I[I[I[I[I[I[II)V"⟩ method_4_code 13 none ∈ wT := tw 360 (by decide +kernel) rfl
theorem tw_361 : Cond.methodLink "PointAnswersLaw" 88 ⟨"PointAnswersLaw", "points", "(LPointAnswers;[I[I[I[I[I[I[I[I[I)Z"⟩ ∈ wT := tw 361 (by decide +kernel) rfl
theorem tw_362 : Cond.static ⟨"PointAnswersLaw", "points", "(LPointAnswers;[I[I[I[I[I[I[I[I[I)Z"⟩ ∈ wT := tw 362 (by decide +kernel) rfl
theorem tw_364 : Cond.methodLink "PointAnswersLaw" 17 ⟨"PointAnswers", "of", "(II)I"⟩ ∈ wT := tw 364 (by decide +kernel) rfl
theorem tw_365 : Cond.instanceMethod ⟨"PointAnswers", "of", "(II)I"⟩ ∈ wT := tw 365 (by decide +kernel) rfl
theorem tw_366 : Cond.selects "PointAnswers" ⟨"PointAnswers", "of", "(II)I"⟩ ⟨"PointAnswers", "of", "(II)I"⟩ ∈ wT := tw 366 (by decide +kernel) rfl
theorem tw_367 : Cond.code ⟨"PointAnswers", "of", "(II)I"⟩ prog_1_method_9_code 4 (some .int) ∈ wT := tw 367 (by decide +kernel) rfl
theorem tw_370 : Cond.methodLink "PointAnswers" 105 ⟨"PointAnswers", "has", "(II)Z"⟩ ∈ wT := tw 370 (by decide +kernel) rfl
theorem tw_373 : Cond.instanceMethod ⟨"PointAnswers$Bundle", "reasonAgainst", "(I)I"⟩ ∈ wT := tw 373 (by decide +kernel) rfl
theorem tw_374 : Cond.code ⟨"PointAnswers$Bundle", "reasonAgainst", "(I)I"⟩ prog_2_method_28_code 2 (some .int) ∈ wT := tw 374 (by decide +kernel) rfl
theorem tw_377 : Cond.instanceMethod ⟨"PointAnswers$Bundle", "answersTo", "(I)I"⟩ ∈ wT := tw 377 (by decide +kernel) rfl
theorem tw_378 : Cond.code ⟨"PointAnswers$Bundle", "answersTo", "(I)I"⟩ prog_2_method_16_code 5 (some .int) ∈ wT := tw 378 (by decide +kernel) rfl
theorem tw_379 : Cond.methodLink "PointAnswers" 115 ⟨"PointAnswers", "lowestOf", "(I)I"⟩ ∈ wT := tw 379 (by decide +kernel) rfl
theorem tw_380 : Cond.static ⟨"PointAnswers", "lowestOf", "(I)I"⟩ ∈ wT := tw 380 (by decide +kernel) rfl
theorem tw_381 : Cond.code ⟨"PointAnswers", "lowestOf", "(I)I"⟩ prog_1_method_28_code 2 (some .int) ∈ wT := tw 381 (by decide +kernel) rfl
theorem tw_384 : Cond.instanceMethod ⟨"PointAnswers$Bundle", "depthOf", "(I)I"⟩ ∈ wT := tw 384 (by decide +kernel) rfl
theorem tw_385 : Cond.code ⟨"PointAnswers$Bundle", "depthOf", "(I)I"⟩ prog_2_method_29_code 4 (some .int) ∈ wT := tw 385 (by decide +kernel) rfl
theorem tw_388 : Cond.instanceMethod ⟨"PointAnswers$Bundle", "daysLeft", "(LPointAnswers$Point;)I"⟩ ∈ wT := tw 388 (by decide +kernel) rfl
theorem tw_389 : Cond.code ⟨"PointAnswers$Bundle", "daysLeft", "(LPointAnswers$Point;)I"⟩ prog_2_method_30_code 3 (some .int) ∈ wT := tw 389 (by decide +kernel) rfl
theorem tw_390 : Cond.methodLink "PointAnswersLaw" 21 ⟨"PointAnswers", "count", "(I)I"⟩ ∈ wT := tw 390 (by decide +kernel) rfl
theorem tw_391 : Cond.instanceMethod ⟨"PointAnswers", "count", "(I)I"⟩ ∈ wT := tw 391 (by decide +kernel) rfl
theorem tw_392 : Cond.selects "PointAnswers" ⟨"PointAnswers", "count", "(I)I"⟩ ⟨"PointAnswers", "count", "(I)I"⟩ ∈ wT := tw 392 (by decide +kernel) rfl
theorem tw_393 : Cond.code ⟨"PointAnswers", "count", "(I)I"⟩ prog_1_method_10_code 2 (some .int) ∈ wT := tw 393 (by decide +kernel) rfl
theorem tw_396 : Cond.instanceMethod ⟨"PointAnswers$Bundle", "claims", "()I"⟩ ∈ wT := tw 396 (by decide +kernel) rfl
theorem tw_397 : Cond.code ⟨"PointAnswers$Bundle", "claims", "()I"⟩ prog_2_method_15_code 1 (some .int) ∈ wT := tw 397 (by decide +kernel) rfl
theorem tw_398 : Cond.methodLink "PointAnswers$Bundle" 89 ⟨"PointAnswers$Bundle", "answersTo", "(I)I"⟩ ∈ wT := tw 398 (by decide +kernel) rfl
theorem tw_399 : Cond.methodLink "PointAnswers" 134 ⟨"java/lang/Integer", "bitCount", "(I)I"⟩ ∈ wT := tw 399 (by decide +kernel) rfl
theorem tw_403 : Cond.instanceMethod ⟨"PointAnswers$Bundle", "answered", "()I"⟩ ∈ wT := tw 403 (by decide +kernel) rfl
theorem tw_404 : Cond.code ⟨"PointAnswers$Bundle", "answered", "()I"⟩ prog_2_method_26_code 1 (some .int) ∈ wT := tw 404 (by decide +kernel) rfl
theorem tw_405 : Cond.methodLink "PointAnswers$Bundle" 92 ⟨"PointAnswers$Bundle", "all", "()I"⟩ ∈ wT := tw 405 (by decide +kernel) rfl
theorem tw_407 : Cond.instanceMethod ⟨"PointAnswers$Bundle", "all", "()I"⟩ ∈ wT := tw 407 (by decide +kernel) rfl
theorem tw_408 : Cond.code ⟨"PointAnswers$Bundle", "all", "()I"⟩ prog_2_method_14_code 1 (some .int) ∈ wT := tw 408 (by decide +kernel) rfl
theorem tw_413 : Cond.instanceMethod ⟨"PointAnswers$Bundle", "pagesOf", "(II)I"⟩ ∈ wT := tw 413 (by decide +kernel) rfl
theorem tw_414 : Cond.code ⟨"PointAnswers$Bundle", "pagesOf", "(II)I"⟩ prog_2_method_31_code 6 (some .int) ∈ wT := tw 414 (by decide +kernel) rfl
theorem tw_415 : Cond.methodLink "PointAnswersLaw" 25 ⟨"PointAnswersLaw", "bits", "(I)I"⟩ ∈ wT := tw 415 (by decide +kernel) rfl
theorem tw_416 : Cond.static ⟨"PointAnswersLaw", "bits", "(I)I"⟩ ∈ wT := tw 416 (by decide +kernel) rfl
theorem tw_417 : Cond.code ⟨"PointAnswersLaw", "bits", "(I)I"⟩ method_5_code 3 (some .int) ∈ wT := tw 417 (by decide +kernel) rfl
theorem tw_418 : Cond.methodLink "PointAnswersLaw" 30 ⟨"PointAnswers", "points", "(I)I"⟩ ∈ wT := tw 418 (by decide +kernel) rfl
theorem tw_419 : Cond.instanceMethod ⟨"PointAnswers", "points", "(I)I"⟩ ∈ wT := tw 419 (by decide +kernel) rfl
theorem tw_420 : Cond.selects "PointAnswers" ⟨"PointAnswers", "points", "(I)I"⟩ ⟨"PointAnswers", "points", "(I)I"⟩ ∈ wT := tw 420 (by decide +kernel) rfl
theorem tw_421 : Cond.code ⟨"PointAnswers", "points", "(I)I"⟩ prog_1_method_11_code 2 (some .int) ∈ wT := tw 421 (by decide +kernel) rfl
theorem tw_424 : Cond.instanceMethod ⟨"PointAnswers$Bundle", "ofSide", "(I)I"⟩ ∈ wT := tw 424 (by decide +kernel) rfl
theorem tw_425 : Cond.code ⟨"PointAnswers$Bundle", "ofSide", "(I)I"⟩ prog_2_method_19_code 5 (some .int) ∈ wT := tw 425 (by decide +kernel) rfl
theorem tw_426 : Cond.methodLink "PointAnswersLaw" 33 ⟨"PointAnswers", "share", "(I)I"⟩ ∈ wT := tw 426 (by decide +kernel) rfl
theorem tw_427 : Cond.instanceMethod ⟨"PointAnswers", "share", "(I)I"⟩ ∈ wT := tw 427 (by decide +kernel) rfl
theorem tw_428 : Cond.selects "PointAnswers" ⟨"PointAnswers", "share", "(I)I"⟩ ⟨"PointAnswers", "share", "(I)I"⟩ ∈ wT := tw 428 (by decide +kernel) rfl
theorem tw_429 : Cond.code ⟨"PointAnswers", "share", "(I)I"⟩ prog_1_method_12_code 3 (some .int) ∈ wT := tw 429 (by decide +kernel) rfl
theorem tw_430 : Cond.methodLink "PointAnswers" 172 ⟨"PointAnswers", "floatBits", "(II)I"⟩ ∈ wT := tw 430 (by decide +kernel) rfl
theorem tw_431 : Cond.static ⟨"PointAnswers", "floatBits", "(II)I"⟩ ∈ wT := tw 431 (by decide +kernel) rfl
theorem tw_432 : Cond.code ⟨"PointAnswers", "floatBits", "(II)I"⟩ prog_1_method_29_code 9 (some .int) ∈ wT := tw 432 (by decide +kernel) rfl
theorem tw_433 : Cond.constantLong "PointAnswers" 257 (2) ∈ wT := tw 433 (by decide +kernel) rfl
theorem tw_434 : Cond.constantLong "PointAnswers" 259 (8388608) ∈ wT := tw 434 (by decide +kernel) rfl
theorem tw_435 : Cond.methodLink "PointAnswersLaw" 36 ⟨"PointAnswersLaw", "share", "(II)I"⟩ ∈ wT := tw 435 (by decide +kernel) rfl
theorem tw_436 : Cond.static ⟨"PointAnswersLaw", "share", "(II)I"⟩ ∈ wT := tw 436 (by decide +kernel) rfl
theorem tw_437 : Cond.code ⟨"PointAnswersLaw", "share", "(II)I"⟩ method_6_code 9 (some .int) ∈ wT := tw 437 (by decide +kernel) rfl
theorem tw_438 : Cond.constantLong "PointAnswersLaw" 10 (2) ∈ wT := tw 438 (by decide +kernel) rfl
theorem tw_439 : Cond.constantLong "PointAnswersLaw" 12 (8388608) ∈ wT := tw 439 (by decide +kernel) rfl
theorem tw_440 : Cond.constant "PointAnswersLaw" 14 (8388608) ∈ wT := tw 440 (by decide +kernel) rfl
theorem tw_441 : Cond.methodLink "PointAnswersLaw" 91 ⟨"PointAnswersLaw", "tries", "(LPointAnswers;[I[I[I[I[I[I[I[I)Z"⟩ ∈ wT := tw 441 (by decide +kernel) rfl
theorem tw_442 : Cond.static ⟨"PointAnswersLaw", "tries", "(LPointAnswers;[I[I[I[I[I[I[I[I)Z"⟩ ∈ wT := tw 442 (by decide +kernel) rfl
theorem tw_444 : Cond.methodLink "PointAnswersLaw" 42 ⟨"PointAnswers", "bestAnswer", "(I)I"⟩ ∈ wT := tw 444 (by decide +kernel) rfl
theorem tw_445 : Cond.instanceMethod ⟨"PointAnswers", "bestAnswer", "(I)I"⟩ ∈ wT := tw 445 (by decide +kernel) rfl
theorem tw_446 : Cond.selects "PointAnswers" ⟨"PointAnswers", "bestAnswer", "(I)I"⟩ ⟨"PointAnswers", "bestAnswer", "(I)I"⟩ ∈ wT := tw 446 (by decide +kernel) rfl
theorem tw_447 : Cond.code ⟨"PointAnswers", "bestAnswer", "(I)I"⟩ prog_1_method_15_code 9 (some .int) ∈ wT := tw 447 (by decide +kernel) rfl
theorem tw_451 : Cond.instanceMethod ⟨"PointAnswers$Bundle", "withoutAnswers", "()I"⟩ ∈ wT := tw 451 (by decide +kernel) rfl
theorem tw_452 : Cond.code ⟨"PointAnswers$Bundle", "withoutAnswers", "()I"⟩ prog_2_method_17_code 3 (some .int) ∈ wT := tw 452 (by decide +kernel) rfl
theorem tw_453 : Cond.methodLink "PointAnswersLaw" 45 ⟨"PointAnswers", "toFall", "(I)I"⟩ ∈ wT := tw 453 (by decide +kernel) rfl
theorem tw_454 : Cond.instanceMethod ⟨"PointAnswers", "toFall", "(I)I"⟩ ∈ wT := tw 454 (by decide +kernel) rfl
theorem tw_455 : Cond.selects "PointAnswers" ⟨"PointAnswers", "toFall", "(I)I"⟩ ⟨"PointAnswers", "toFall", "(I)I"⟩ ∈ wT := tw 455 (by decide +kernel) rfl
theorem tw_456 : Cond.code ⟨"PointAnswers", "toFall", "(I)I"⟩ prog_1_method_13_code 2 (some .int) ∈ wT := tw 456 (by decide +kernel) rfl
theorem tw_459 : Cond.instanceMethod ⟨"PointAnswers$Costs", "weigh", "(LPointAnswers$Bundle;)V"⟩ ∈ wT := tw 459 (by decide +kernel) rfl
theorem tw_460 : Cond.code ⟨"PointAnswers$Costs", "weigh", "(LPointAnswers$Bundle;)V"⟩ prog_3_method_2_code 7 none ∈ wT := tw 460 (by decide +kernel) rfl
theorem tw_463 : Cond.methodLink "PointAnswers$Costs" 27 ⟨"java/lang/Math", "min", "(II)I"⟩ ∈ wT := tw 463 (by decide +kernel) rfl
theorem tw_464 : Cond.static ⟨"java/lang/Math", "min", "(II)I"⟩ ∈ wT := tw 464 (by decide +kernel) rfl
theorem tw_465 : Cond.code ⟨"java/lang/Math", "min", "(II)I"⟩ prog_11_method_69_code 2 (some .int) ∈ wT := tw 465 (by decide +kernel) rfl
theorem tw_468 : Cond.methodLink "PointAnswers$Costs" 47 ⟨"PointAnswers$Costs", "addToTarget", "(III)V"⟩ ∈ wT := tw 468 (by decide +kernel) rfl
theorem tw_470 : Cond.instanceMethod ⟨"PointAnswers$Costs", "addToTarget", "(III)V"⟩ ∈ wT := tw 470 (by decide +kernel) rfl
theorem tw_471 : Cond.code ⟨"PointAnswers$Costs", "addToTarget", "(III)V"⟩ prog_3_method_3_code 4 none ∈ wT := tw 471 (by decide +kernel) rfl
theorem tw_474 : Cond.instanceMethod ⟨"PointAnswers$Costs", "answersToFall", "(I)I"⟩ ∈ wT := tw 474 (by decide +kernel) rfl
theorem tw_475 : Cond.code ⟨"PointAnswers$Costs", "answersToFall", "(I)I"⟩ prog_3_method_4_code 2 (some .int) ∈ wT := tw 475 (by decide +kernel) rfl
theorem tw_476 : Cond.methodLink "PointAnswers$Costs" 51 ⟨"PointAnswers$Costs", "reachable", "(I)I"⟩ ∈ wT := tw 476 (by decide +kernel) rfl
theorem tw_477 : Cond.static ⟨"PointAnswers$Costs", "reachable", "(I)I"⟩ ∈ wT := tw 477 (by decide +kernel) rfl
theorem tw_478 : Cond.code ⟨"PointAnswers$Costs", "reachable", "(I)I"⟩ prog_3_method_6_code 1 (some .int) ∈ wT := tw 478 (by decide +kernel) rfl
theorem tw_479 : Cond.methodLink "PointAnswersLaw" 48 ⟨"PointAnswers", "toStand", "(I)I"⟩ ∈ wT := tw 479 (by decide +kernel) rfl
theorem tw_480 : Cond.instanceMethod ⟨"PointAnswers", "toStand", "(I)I"⟩ ∈ wT := tw 480 (by decide +kernel) rfl
theorem tw_481 : Cond.selects "PointAnswers" ⟨"PointAnswers", "toStand", "(I)I"⟩ ⟨"PointAnswers", "toStand", "(I)I"⟩ ∈ wT := tw 481 (by decide +kernel) rfl
theorem tw_482 : Cond.code ⟨"PointAnswers", "toStand", "(I)I"⟩ prog_1_method_14_code 2 (some .int) ∈ wT := tw 482 (by decide +kernel) rfl
theorem tw_485 : Cond.instanceMethod ⟨"PointAnswers$Costs", "answersToStand", "(I)I"⟩ ∈ wT := tw 485 (by decide +kernel) rfl
theorem tw_486 : Cond.code ⟨"PointAnswers$Costs", "answersToStand", "(I)I"⟩ prog_3_method_5_code 2 (some .int) ∈ wT := tw 486 (by decide +kernel) rfl
theorem tw_487 : Cond.methodLink "PointAnswersLaw" 95 ⟨"PointAnswersLaw", "days", "(LPointAnswers;[I[I[I[I[I[I[I[I)Z"⟩ ∈ wT := tw 487 (by decide +kernel) rfl
theorem tw_488 : Cond.static ⟨"PointAnswersLaw", "days", "(LPointAnswers;[I[I[I[I[I[I[I[I)Z"⟩ ∈ wT := tw 488 (by decide +kernel) rfl
theorem tw_489 : Cond.code ⟨"PointAnswersLaw", "days", "(LPointAnswers;[I[I[I[I[I[I[I[I)Z"⟩ method_9_code 18 (some .boolean) ∈ wT := tw 489 (by decide +kernel) rfl
theorem tw_490 : Cond.methodLink "PointAnswersLaw" 51 ⟨"PointAnswers", "leastPages", "()I"⟩ ∈ wT := tw 490 (by decide +kernel) rfl
theorem tw_491 : Cond.instanceMethod ⟨"PointAnswers", "leastPages", "()I"⟩ ∈ wT := tw 491 (by decide +kernel) rfl
theorem tw_492 : Cond.selects "PointAnswers" ⟨"PointAnswers", "leastPages", "()I"⟩ ⟨"PointAnswers", "leastPages", "()I"⟩ ∈ wT := tw 492 (by decide +kernel) rfl
theorem tw_493 : Cond.code ⟨"PointAnswers", "leastPages", "()I"⟩ prog_1_method_17_code 3 (some .int) ∈ wT := tw 493 (by decide +kernel) rfl
theorem tw_494 : Cond.methodLink "PointAnswers" 196 ⟨"java/lang/Math", "max", "(II)I"⟩ ∈ wT := tw 494 (by decide +kernel) rfl
theorem tw_495 : Cond.static ⟨"java/lang/Math", "max", "(II)I"⟩ ∈ wT := tw 495 (by decide +kernel) rfl
theorem tw_496 : Cond.code ⟨"java/lang/Math", "max", "(II)I"⟩ prog_11_method_65_code 2 (some .int) ∈ wT := tw 496 (by decide +kernel) rfl
theorem tw_497 : Cond.methodLink "PointAnswersLaw" 55 ⟨"PointAnswers", "changesIn", "()I"⟩ ∈ wT := tw 497 (by decide +kernel) rfl
theorem tw_498 : Cond.instanceMethod ⟨"PointAnswers", "changesIn", "()I"⟩ ∈ wT := tw 498 (by decide +kernel) rfl
theorem tw_499 : Cond.selects "PointAnswers" ⟨"PointAnswers", "changesIn", "()I"⟩ ⟨"PointAnswers", "changesIn", "()I"⟩ ∈ wT := tw 499 (by decide +kernel) rfl
theorem tw_500 : Cond.code ⟨"PointAnswers", "changesIn", "()I"⟩ prog_1_method_16_code 4 (some .int) ∈ wT := tw 500 (by decide +kernel) rfl
