section
-- ===== PART A: goes FIRST, ahead of the names: the tables' words, and 'selects' of the private methods out of them =====
/-- a private method of a class that the tables say can be made, by its rows of tables_1 -/
def lw_okq (q : MethodName × Nat) : Prop := (q.1.cls ≠ "java/lang/invoke/MethodHandle" ∧ q.1.cls ≠ "java/lang/invoke/VarHandle") ∧ Cond.instantiable q.1.cls q.2 ∈ tables_1 ∧ Cond.privateMethod q.1 ∈ tables_1 ∧ Cond.instanceMethod q.1 ∈ tables_1
theorem lw_p0 : lw_okq (⟨"RowSparse", "hasPlace", "(II)Z"⟩, 12) := ⟨⟨by decide +kernel, by decide +kernel⟩, List.mem_of_getElem? (i := 7) (by decide +kernel), List.mem_of_getElem? (i := 82) (by decide +kernel), List.mem_of_getElem? (i := 83) (by decide +kernel)⟩
theorem lw_p1 : lw_okq (⟨"RowSparse", "addPendingTo", "([II)V"⟩, 12) := ⟨⟨by decide +kernel, by decide +kernel⟩, List.mem_of_getElem? (i := 7) (by decide +kernel), List.mem_of_getElem? (i := 100) (by decide +kernel), List.mem_of_getElem? (i := 101) (by decide +kernel)⟩
theorem lw_p2 : lw_okq (⟨"RowSparse", "swapSupports", "()V"⟩, 12) := ⟨⟨by decide +kernel, by decide +kernel⟩, List.mem_of_getElem? (i := 7) (by decide +kernel), List.mem_of_getElem? (i := 108) (by decide +kernel), List.mem_of_getElem? (i := 109) (by decide +kernel)⟩
theorem lw_p3 : lw_okq (⟨"RowSparseModel", "isPlace", "(II)Z"⟩, 9) := ⟨⟨by decide +kernel, by decide +kernel⟩, List.mem_of_getElem? (i := 176) (by decide +kernel), List.mem_of_getElem? (i := 217) (by decide +kernel), List.mem_of_getElem? (i := 218) (by decide +kernel)⟩
theorem lw_p4 : lw_okq (⟨"RowSparseModel", "becomes", "()I"⟩, 9) := ⟨⟨by decide +kernel, by decide +kernel⟩, List.mem_of_getElem? (i := 176) (by decide +kernel), List.mem_of_getElem? (i := 228) (by decide +kernel), List.mem_of_getElem? (i := 229) (by decide +kernel)⟩
theorem lw_p5 : lw_okq (⟨"RowSparseModel", "many", "([II)I"⟩, 9) := ⟨⟨by decide +kernel, by decide +kernel⟩, List.mem_of_getElem? (i := 176) (by decide +kernel), List.mem_of_getElem? (i := 232) (by decide +kernel), List.mem_of_getElem? (i := 233) (by decide +kernel)⟩
theorem lw_p6 : lw_okq (⟨"RowSparseModel", "turns", "()V"⟩, 9) := ⟨⟨by decide +kernel, by decide +kernel⟩, List.mem_of_getElem? (i := 176) (by decide +kernel), List.mem_of_getElem? (i := 236) (by decide +kernel), List.mem_of_getElem? (i := 237) (by decide +kernel)⟩
def lw_privs_1 : List (MethodName × Nat) := [(⟨"RowSparse", "hasPlace", "(II)Z"⟩, 12), (⟨"RowSparse", "addPendingTo", "([II)V"⟩, 12), (⟨"RowSparse", "swapSupports", "()V"⟩, 12), (⟨"RowSparseModel", "isPlace", "(II)Z"⟩, 9), (⟨"RowSparseModel", "becomes", "()I"⟩, 9), (⟨"RowSparseModel", "many", "([II)I"⟩, 9), (⟨"RowSparseModel", "turns", "()V"⟩, 9)]
theorem lw_r1 : ∀ q ∈ lw_privs_1, lw_okq q := List.forall_mem_cons.mpr ⟨lw_p0, List.forall_mem_cons.mpr ⟨lw_p1, List.forall_mem_cons.mpr ⟨lw_p2, List.forall_mem_cons.mpr ⟨lw_p3, List.forall_mem_cons.mpr ⟨lw_p4, List.forall_mem_cons.mpr ⟨lw_p5, List.forall_mem_cons.mpr ⟨lw_p6, fun _ h => absurd h List.not_mem_nil⟩⟩⟩⟩⟩⟩⟩
def lw_privs : List (MethodName × Nat) := lw_privs_1
def lw_tbl : List Cond := k2_sels lw_privs ++ tables_1
theorem lw_privs_ok : ∀ q ∈ lw_privs, lw_okq q := lw_r1
end
section
/-! ===== BEGIN words of one list among another's, by their places ===== -/
theorem goodIn_r {big : List Cond} (ws : List Cond) (ps : List Nat) (hp : ws = ps.filterMap (fun i => big[i]?)) (h : ws.all goodWord = true) : GoodIn big ws := by
  intro w hw
  have h1 := List.all_eq_true.mp h w hw
  rw [hp] at hw
  obtain ⟨i, -, hi⟩ := List.mem_filterMap.mp hw
  have hm : w ∈ big := by first | exact List.mem_of_getElem? hi | exact List.getElem?_mem hi
  exact ⟨hm, good_of_word h1⟩
theorem goodIn_app {big a b : List Cond} (ha : GoodIn big a) (hb : GoodIn big b) : GoodIn big (a ++ b) := fun w h => (List.mem_append.mp h).elim (ha w) (hb w)
theorem goodIn_ca {big a b : List Cond} {c : Cond} (ha : GoodIn big (c :: a)) (hb : GoodIn big b) : GoodIn big (c :: (a ++ b)) := fun w h => (List.mem_cons.mp h).elim (fun e => ha w (List.mem_cons.mpr (Or.inl e))) (fun h => (List.mem_append.mp h).elim (fun h => ha w (List.mem_cons.mpr (Or.inr h))) (hb w))
theorem goodIn_sub {big ws : List Cond} (hm : ∀ w ∈ ws, w ∈ big) (h : ws.all goodWord = true) : GoodIn big ws := fun w hw => ⟨hm w hw, good_of_word (List.all_eq_true.mp h w hw)⟩
/-! ===== END ===== -/

/-! ===== BEGIN printed: names, fields, word lists, decode rows ===== -/
def RX0 : String := "RowSparse$Support"
def TX0 : u_T := fun k => match k with
  | 0 => ("RowSparse$Support", "starts", "[I", true)
  | 1 => ("RowSparse$Support", "columns", "[I", true)
  | _ => ("RowSparse$Support", "values", "[I", true)
def tyX0 : Nat → FieldType := fun k => match k with
  | 0 => .array .int
  | 1 => .array .int
  | _ => .array .int
abbrev wsX00 : List Cond := u_ws RX0 TX0 3
theorem nmX0 : ∀ a, a < 3 → ∀ b, b < 3 → a ≠ b → (TX0 a).2.1 ≠ (TX0 b).2.1 := by decide +kernel
theorem tyX0_ok : ∀ k, k < 3 → parseFieldDescriptor (TX0 k).2.2.1 = some (tyX0 k) := by decide +kernel
abbrev cX0_init : ByteArray := prog_2_method_1_code
def yX0_init : MethodName := ⟨RX0, "<init>", "(II)V"⟩
abbrev cX0_placesAhead : ByteArray := prog_2_method_2_code
def yX0_placesAhead : MethodName := ⟨RX0, "placesAhead", "(I)I"⟩
abbrev cX0_column : ByteArray := prog_2_method_3_code
def yX0_column : MethodName := ⟨RX0, "column", "(I)I"⟩
abbrev cX0_entry : ByteArray := prog_2_method_4_code
def yX0_entry : MethodName := ⟨RX0, "entry", "(II)I"⟩
abbrev cX0_rowTimes : ByteArray := prog_2_method_5_code
def yX0_rowTimes : MethodName := ⟨RX0, "rowTimes", "(I[I)I"⟩
abbrev cX0_addRowTo : ByteArray := prog_2_method_6_code
def yX0_addRowTo : MethodName := ⟨RX0, "addRowTo", "([III)V"⟩
abbrev cX0_addSquaredRowTo : ByteArray := prog_2_method_7_code
def yX0_addSquaredRowTo : MethodName := ⟨RX0, "addSquaredRowTo", "([II)V"⟩
abbrev cX0_putRow : ByteArray := prog_2_method_8_code
def yX0_putRow : MethodName := ⟨RX0, "putRow", "(I[I)Z"⟩
def RX1 : String := "RowSparse"
def TX1 : u_T := fun k => match k with
  | 0 => ("RowSparse", "cap", "I", true)
  | 1 => ("RowSparse", "rows", "I", false)
  | 2 => ("RowSparse", "cols", "I", false)
  | 3 => ("RowSparse", "support", "LRowSparse$Support;", false)
  | 4 => ("RowSparse", "spare", "LRowSparse$Support;", false)
  | 5 => ("RowSparse", "pendingRows", "[I", true)
  | 6 => ("RowSparse", "pendingCols", "[I", true)
  | 7 => ("RowSparse", "pendingValues", "[I", true)
  | 8 => ("RowSparse", "pending", "I", false)
  | 9 => ("RowSparse", "vector", "[I", true)
  | 10 => ("RowSparse", "product", "[I", true)
  | _ => ("RowSparse", "line", "[I", true)
def tyX1 : Nat → FieldType := fun k => match k with
  | 0 => .int
  | 1 => .int
  | 2 => .int
  | 3 => .object "RowSparse$Support"
  | 4 => .object "RowSparse$Support"
  | 5 => .array .int
  | 6 => .array .int
  | 7 => .array .int
  | 8 => .int
  | 9 => .array .int
  | 10 => .array .int
  | _ => .array .int
abbrev wsX10 : List Cond := u_ws RX1 TX1 12
theorem nmX1 : ∀ a, a < 12 → ∀ b, b < 12 → a ≠ b → (TX1 a).2.1 ≠ (TX1 b).2.1 := by decide +kernel
theorem tyX1_ok : ∀ k, k < 12 → parseFieldDescriptor (TX1 k).2.2.1 = some (tyX1 k) := by decide +kernel
abbrev cX1_init : ByteArray := prog_1_method_1_code
def yX1_init : MethodName := ⟨RX1, "<init>", "(III)V"⟩
abbrev cX1_add : ByteArray := prog_1_method_2_code
def yX1_add : MethodName := ⟨RX1, "add", "(III)Z"⟩
abbrev cX1_build : ByteArray := prog_1_method_3_code
def yX1_build : MethodName := ⟨RX1, "build", "()I"⟩
abbrev cX1_nnz : ByteArray := prog_1_method_4_code
def yX1_nnz : MethodName := ⟨RX1, "nnz", "()I"⟩
abbrev cX1_at : ByteArray := prog_1_method_5_code
def yX1_at : MethodName := ⟨RX1, "at", "(II)I"⟩
abbrev cX1_rowStart : ByteArray := prog_1_method_6_code
def yX1_rowStart : MethodName := ⟨RX1, "rowStart", "(I)I"⟩
abbrev cX1_colAt : ByteArray := prog_1_method_7_code
def yX1_colAt : MethodName := ⟨RX1, "colAt", "(I)I"⟩
abbrev cX1_setX : ByteArray := prog_1_method_8_code
def yX1_setX : MethodName := ⟨RX1, "setX", "(II)Z"⟩
abbrev cX1_multiplyVector : ByteArray := prog_1_method_9_code
def yX1_multiplyVector : MethodName := ⟨RX1, "multiplyVector", "()Z"⟩
abbrev cX1_y : ByteArray := prog_1_method_10_code
def yX1_y : MethodName := ⟨RX1, "y", "(I)I"⟩
abbrev cX1_transpose : ByteArray := prog_1_method_11_code
def yX1_transpose : MethodName := ⟨RX1, "transpose", "()Z"⟩
abbrev cX1_square : ByteArray := prog_1_method_12_code
def yX1_square : MethodName := ⟨RX1, "square", "()I"⟩
abbrev cX1_count : ByteArray := prog_1_method_13_code
def yX1_count : MethodName := ⟨RX1, "count", "(I)I"⟩
abbrev cX1_nearest : ByteArray := prog_1_method_14_code
def yX1_nearest : MethodName := ⟨RX1, "nearest", "(II)I"⟩
abbrev cX1_isWithin : ByteArray := prog_1_method_15_code
def yX1_isWithin : MethodName := ⟨RX1, "isWithin", "(II)Z"⟩
abbrev cX1_hasPlace : ByteArray := prog_1_method_16_code
def yX1_hasPlace : MethodName := ⟨RX1, "hasPlace", "(II)Z"⟩
abbrev cX1_addPendingTo : ByteArray := prog_1_method_17_code
def yX1_addPendingTo : MethodName := ⟨RX1, "addPendingTo", "([II)V"⟩
abbrev cX1_swapSupports : ByteArray := prog_1_method_18_code
def yX1_swapSupports : MethodName := ⟨RX1, "swapSupports", "()V"⟩
def RX2 : String := "RowSparseModel"
def TX2 : u_T := fun k => match k with
  | 0 => ("RowSparseModel", "cap", "I", true)
  | 1 => ("RowSparseModel", "rows", "I", false)
  | 2 => ("RowSparseModel", "cols", "I", false)
  | 3 => ("RowSparseModel", "pending", "I", false)
  | 4 => ("RowSparseModel", "table", "[I", false)
  | 5 => ("RowSparseModel", "other", "[I", false)
  | 6 => ("RowSparseModel", "more", "[I", true)
  | 7 => ("RowSparseModel", "x", "[I", true)
  | _ => ("RowSparseModel", "y", "[I", true)
def tyX2 : Nat → FieldType := fun k => match k with
  | 0 => .int
  | 1 => .int
  | 2 => .int
  | 3 => .int
  | 4 => .array .int
  | 5 => .array .int
  | 6 => .array .int
  | 7 => .array .int
  | _ => .array .int
abbrev wsX20 : List Cond := u_ws RX2 TX2 9
theorem nmX2 : ∀ a, a < 9 → ∀ b, b < 9 → a ≠ b → (TX2 a).2.1 ≠ (TX2 b).2.1 := by decide +kernel
theorem tyX2_ok : ∀ k, k < 9 → parseFieldDescriptor (TX2 k).2.2.1 = some (tyX2 k) := by decide +kernel
abbrev cX2_init : ByteArray := prog_4_method_1_code
def yX2_init : MethodName := ⟨RX2, "<init>", "(III)V"⟩
abbrev cX2_within : ByteArray := prog_4_method_2_code
def yX2_within : MethodName := ⟨RX2, "within", "(II)I"⟩
abbrev cX2_in : ByteArray := prog_4_method_3_code
def yX2_in : MethodName := ⟨RX2, "in", "(III)Z"⟩
abbrev cX2_isPlace : ByteArray := prog_4_method_4_code
def yX2_isPlace : MethodName := ⟨RX2, "isPlace", "(II)Z"⟩
abbrev cX2_add : ByteArray := prog_4_method_5_code
def yX2_add : MethodName := ⟨RX2, "add", "(III)Z"⟩
abbrev cX2_many : ByteArray := prog_4_method_6_code
def yX2_many : MethodName := ⟨RX2, "many", "([II)I"⟩
abbrev cX2_turns : ByteArray := prog_4_method_7_code
def yX2_turns : MethodName := ⟨RX2, "turns", "()V"⟩
abbrev cX2_becomes : ByteArray := prog_4_method_8_code
def yX2_becomes : MethodName := ⟨RX2, "becomes", "()I"⟩
abbrev cX2_build : ByteArray := prog_4_method_9_code
def yX2_build : MethodName := ⟨RX2, "build", "()I"⟩
abbrev cX2_nnz : ByteArray := prog_4_method_10_code
def yX2_nnz : MethodName := ⟨RX2, "nnz", "()I"⟩
abbrev cX2_at : ByteArray := prog_4_method_11_code
def yX2_at : MethodName := ⟨RX2, "at", "(II)I"⟩
abbrev cX2_rowStart : ByteArray := prog_4_method_12_code
def yX2_rowStart : MethodName := ⟨RX2, "rowStart", "(I)I"⟩
abbrev cX2_colAt : ByteArray := prog_4_method_13_code
def yX2_colAt : MethodName := ⟨RX2, "colAt", "(I)I"⟩
abbrev cX2_setX : ByteArray := prog_4_method_14_code
def yX2_setX : MethodName := ⟨RX2, "setX", "(II)Z"⟩
abbrev cX2_multiplyVector : ByteArray := prog_4_method_15_code
def yX2_multiplyVector : MethodName := ⟨RX2, "multiplyVector", "()Z"⟩
abbrev cX2_y : ByteArray := prog_4_method_16_code
def yX2_y : MethodName := ⟨RX2, "y", "(I)I"⟩
abbrev cX2_transpose : ByteArray := prog_4_method_17_code
def yX2_transpose : MethodName := ⟨RX2, "transpose", "()Z"⟩
abbrev cX2_square : ByteArray := prog_4_method_18_code
def yX2_square : MethodName := ⟨RX2, "square", "()I"⟩
abbrev cX2_count : ByteArray := prog_4_method_19_code
def yX2_count : MethodName := ⟨RX2, "count", "(I)I"⟩
def RJ9 : String := "java/lang/Math"
def TJ9 : u_T := fun k => match k with
  | _ => ("", "", "", false)
def tyJ9 : Nat → FieldType := fun k => match k with
  | _ => .int
abbrev wsJ90 : List Cond := u_ws RJ9 TJ9 0
theorem nmJ9 : ∀ a, a < 0 → ∀ b, b < 0 → a ≠ b → (TJ9 a).2.1 ≠ (TJ9 b).2.1 := by decide +kernel
theorem tyJ9_ok : ∀ k, k < 0 → parseFieldDescriptor (TJ9 k).2.2.1 = some (tyJ9 k) := by decide +kernel
abbrev cJ9_max_7cf53 : ByteArray := prog_5_method_65_code
def yJ9_max_7cf53 : MethodName := ⟨RJ9, "max", "(II)I"⟩
abbrev cJ9_min_7cf53 : ByteArray := prog_5_method_69_code
def yJ9_min_7cf53 : MethodName := ⟨RJ9, "min", "(II)I"⟩
def RJ7 : String := "java/util/Arrays"
def TJ7 : u_T := fun k => match k with
  | _ => ("", "", "", false)
def tyJ7 : Nat → FieldType := fun k => match k with
  | _ => .int
abbrev wsJ70 : List Cond := u_ws RJ7 TJ7 0
theorem nmJ7 : ∀ a, a < 0 → ∀ b, b < 0 → a ≠ b → (TJ7 a).2.1 ≠ (TJ7 b).2.1 := by decide +kernel
theorem tyJ7_ok : ∀ k, k < 0 → parseFieldDescriptor (TJ7 k).2.2.1 = some (tyJ7 k) := by decide +kernel
abbrev cJ7_fill_53178 : ByteArray := prog_6_method_103_code
def yJ7_fill_53178 : MethodName := ⟨RJ7, "fill", "([II)V"⟩
def RL : String := "RowSparseLaw"
abbrev cL_cell : ByteArray := method_2_code
def yL_cell : MethodName := ⟨RL, "cell", "([II)I"⟩
abbrev cL_law : ByteArray := code
def yL_law : MethodName := ⟨RL, "law", "([I)Z"⟩
def wsX0_init : List Cond := .code yX0_init cX0_init 3 none :: ([.methodLink RX0 1 objectInit, .instanceMethod objectInit, .code objectInit ⟨#[0xb1]⟩ 1 none, .arrayClass .int, .fieldLink RX0 7 "RowSparse$Support" "starts" "[I", .fieldLink RX0 13 "RowSparse$Support" "columns" "[I", .fieldLink RX0 16 "RowSparse$Support" "values" "[I"] ++ wsX00)
def wsX0_placesAhead : List Cond := .code yX0_placesAhead cX0_placesAhead 2 (some .int) :: ([.fieldLink RX0 7 "RowSparse$Support" "starts" "[I"] ++ wsX00)
def wsX0_column : List Cond := .code yX0_column cX0_column 2 (some .int) :: ([.fieldLink RX0 13 "RowSparse$Support" "columns" "[I"] ++ wsX00)
def wsX0_entry : List Cond := .code yX0_entry cX0_entry 5 (some .int) :: ([.fieldLink RX0 7 "RowSparse$Support" "starts" "[I", .fieldLink RX0 13 "RowSparse$Support" "columns" "[I", .fieldLink RX0 16 "RowSparse$Support" "values" "[I"] ++ wsX00)
def wsX0_rowTimes : List Cond := .code yX0_rowTimes cX0_rowTimes 6 (some .int) :: ([.fieldLink RX0 7 "RowSparse$Support" "starts" "[I", .fieldLink RX0 16 "RowSparse$Support" "values" "[I", .fieldLink RX0 13 "RowSparse$Support" "columns" "[I"] ++ wsX00)
def wsX0_addRowTo : List Cond := .code yX0_addRowTo cX0_addRowTo 6 none :: ([.fieldLink RX0 7 "RowSparse$Support" "starts" "[I", .fieldLink RX0 13 "RowSparse$Support" "columns" "[I", .fieldLink RX0 16 "RowSparse$Support" "values" "[I"] ++ wsX00)
def wsX0_addSquaredRowTo : List Cond := .code yX0_addSquaredRowTo cX0_addSquaredRowTo 5 none :: ([.fieldLink RX0 7 "RowSparse$Support" "starts" "[I", .fieldLink RX0 13 "RowSparse$Support" "columns" "[I", .fieldLink RX0 16 "RowSparse$Support" "values" "[I", .methodLink RX0 19 yX0_addRowTo, .instanceMethod yX0_addRowTo, .selects RX0 yX0_addRowTo yX0_addRowTo, .initialized RX0, .code yX0_addRowTo cX0_addRowTo 6 none] ++ wsX00)
def wsX0_putRow : List Cond := .code yX0_putRow cX0_putRow 5 (some .boolean) :: ([.fieldLink RX0 7 "RowSparse$Support" "starts" "[I", .fieldLink RX0 13 "RowSparse$Support" "columns" "[I", .fieldLink RX0 16 "RowSparse$Support" "values" "[I"] ++ wsX00)
def wsX1_nearest : List Cond := .code yX1_nearest cX1_nearest 2 (some .int) :: ([.methodLink RX1 106 Lib.Math.min.name, .static Lib.Math.min.name, .initialized "java/lang/Math", .code Lib.Math.min.name Lib.Math.min.code 2 (some .int), .methodLink RX1 23 Lib.Math.max.name, .static Lib.Math.max.name, .code Lib.Math.max.name Lib.Math.max.code 2 (some .int)])
def wsX1_init_r1 : List Cond := [Cond.methodLink RX1 1 objectInit, Cond.instanceMethod objectInit, Cond.code objectInit ⟨#[0xb1]⟩ 1 none, Cond.fieldLink RX1 13 "RowSparse" "rows" "I", Cond.fieldLink RX1 17 "RowSparse" "cols" "I", Cond.fieldLink RX1 20 "RowSparse" "cap" "I", Cond.methodLink RX1 23 Lib.Math.max.name, Cond.static Lib.Math.max.name, Cond.initialized "java/lang/Math", Cond.code Lib.Math.max.name Lib.Math.max.code 2 (some .int), Cond.classLink RX1 28 RX0, Cond.instantiable RX0 3, Cond.initialized RX0, Cond.fieldLink RX1 33 "RowSparse" "support" "LRowSparse$Support;", Cond.fieldLink RX1 37 "RowSparse" "spare" "LRowSparse$Support;", Cond.arrayClass .int, Cond.fieldLink RX1 40 "RowSparse" "pendingRows" "[I", Cond.fieldLink RX1 44 "RowSparse" "pendingCols" "[I", Cond.fieldLink RX1 47 "RowSparse" "pendingValues" "[I", Cond.fieldLink RX1 50 "RowSparse" "pending" "I", Cond.fieldLink RX1 53 "RowSparse" "vector" "[I", Cond.fieldLink RX1 56 "RowSparse" "product" "[I", Cond.fieldLink RX1 59 "RowSparse" "line" "[I", Cond.methodLink RX1 9 yX1_nearest]
def wsX1_init_r2 : List Cond := [Cond.static yX1_nearest, Cond.initialized RX1, Cond.code yX1_nearest cX1_nearest 2 (some .int), Cond.methodLink RX1 106 Lib.Math.min.name, Cond.static Lib.Math.min.name, Cond.code Lib.Math.min.name Lib.Math.min.code 2 (some .int), Cond.methodLink RX1 30 yX0_init, Cond.instanceMethod yX0_init, Cond.code yX0_init cX0_init 3 none, Cond.methodLink RX0 1 objectInit, Cond.fieldLink RX0 7 "RowSparse$Support" "starts" "[I", Cond.fieldLink RX0 13 "RowSparse$Support" "columns" "[I", Cond.fieldLink RX0 16 "RowSparse$Support" "values" "[I"]
def wsX1_init : List Cond := .code yX1_init cX1_init 5 none :: ((wsX1_init_r1 ++ wsX1_init_r2) ++ wsX10 ++ wsX00)
def wsX1_isWithin : List Cond := .code yX1_isWithin cX1_isWithin 2 (some .boolean) :: ([])
def wsX1_hasPlace : List Cond := .code yX1_hasPlace cX1_hasPlace 3 (some .boolean) :: ([.fieldLink RX1 13 "RowSparse" "rows" "I", .fieldLink RX1 17 "RowSparse" "cols" "I", .methodLink RX1 96 yX1_isWithin, .static yX1_isWithin, .initialized RX1, .code yX1_isWithin cX1_isWithin 2 (some .boolean)] ++ wsX10)
def wsX1_add : List Cond := .code yX1_add cX1_add 4 (some .boolean) :: ([.fieldLink RX1 50 "RowSparse" "pending" "I", .fieldLink RX1 20 "RowSparse" "cap" "I", .fieldLink RX1 40 "RowSparse" "pendingRows" "[I", .fieldLink RX1 44 "RowSparse" "pendingCols" "[I", .fieldLink RX1 47 "RowSparse" "pendingValues" "[I", .methodLink RX1 62 yX1_hasPlace, .instanceMethod yX1_hasPlace, .selects RX1 yX1_hasPlace yX1_hasPlace, .initialized RX1, .code yX1_hasPlace cX1_hasPlace 3 (some .boolean), .fieldLink RX1 13 "RowSparse" "rows" "I", .fieldLink RX1 17 "RowSparse" "cols" "I", .methodLink RX1 96 yX1_isWithin, .static yX1_isWithin, .code yX1_isWithin cX1_isWithin 2 (some .boolean)] ++ wsX10)
def wsJ7_fill_53178 : List Cond := .code yJ7_fill_53178 cJ7_fill_53178 4 none :: ([])
def wsX1_addPendingTo : List Cond := .code yX1_addPendingTo cX1_addPendingTo 4 none :: ([.fieldLink RX1 50 "RowSparse" "pending" "I", .fieldLink RX1 40 "RowSparse" "pendingRows" "[I", .fieldLink RX1 44 "RowSparse" "pendingCols" "[I", .fieldLink RX1 47 "RowSparse" "pendingValues" "[I"] ++ wsX10)
def wsX1_swapSupports : List Cond := .code yX1_swapSupports cX1_swapSupports 2 none :: ([.fieldLink RX1 33 "RowSparse" "support" "LRowSparse$Support;", .fieldLink RX1 37 "RowSparse" "spare" "LRowSparse$Support;"] ++ wsX10)
def wsX1_build_r1 : List Cond := [Cond.fieldLink RX1 13 "RowSparse" "rows" "I", Cond.fieldLink RX1 59 "RowSparse" "line" "[I", Cond.fieldLink RX1 33 "RowSparse" "support" "LRowSparse$Support;", Cond.fieldLink RX1 37 "RowSparse" "spare" "LRowSparse$Support;", Cond.fieldLink RX1 50 "RowSparse" "pending" "I", Cond.methodLink RX1 66 yJ7_fill_53178, Cond.static yJ7_fill_53178, Cond.initialized RJ7, Cond.code yJ7_fill_53178 cJ7_fill_53178 4 none, Cond.methodLink RX1 72 yX0_addRowTo, Cond.instanceMethod yX0_addRowTo, Cond.selects RX0 yX0_addRowTo yX0_addRowTo, Cond.initialized RX0, Cond.code yX0_addRowTo cX0_addRowTo 6 none, Cond.fieldLink RX0 7 "RowSparse$Support" "starts" "[I", Cond.fieldLink RX0 13 "RowSparse$Support" "columns" "[I", Cond.fieldLink RX0 16 "RowSparse$Support" "values" "[I", Cond.methodLink RX1 76 yX1_addPendingTo, Cond.instanceMethod yX1_addPendingTo, Cond.selects RX1 yX1_addPendingTo yX1_addPendingTo, Cond.initialized RX1, Cond.code yX1_addPendingTo cX1_addPendingTo 4 none, Cond.fieldLink RX1 40 "RowSparse" "pendingRows" "[I", Cond.fieldLink RX1 44 "RowSparse" "pendingCols" "[I"]
def wsX1_build_r2 : List Cond := [Cond.fieldLink RX1 47 "RowSparse" "pendingValues" "[I", Cond.methodLink RX1 79 yX0_putRow, Cond.instanceMethod yX0_putRow, Cond.selects RX0 yX0_putRow yX0_putRow, Cond.code yX0_putRow cX0_putRow 5 (some .boolean), Cond.methodLink RX1 83 yX1_swapSupports, Cond.instanceMethod yX1_swapSupports, Cond.selects RX1 yX1_swapSupports yX1_swapSupports, Cond.code yX1_swapSupports cX1_swapSupports 2 none, Cond.methodLink RX1 86 yX0_placesAhead, Cond.instanceMethod yX0_placesAhead, Cond.selects RX0 yX0_placesAhead yX0_placesAhead, Cond.code yX0_placesAhead cX0_placesAhead 2 (some .int)]
def wsX1_build : List Cond := .code yX1_build cX1_build 2 (some .int) :: ((wsX1_build_r1 ++ wsX1_build_r2) ++ wsX10 ++ wsX00)
def wsX1_nnz : List Cond := .code yX1_nnz cX1_nnz 1 (some .int) :: ([.fieldLink RX1 33 "RowSparse" "support" "LRowSparse$Support;", .fieldLink RX1 13 "RowSparse" "rows" "I", .methodLink RX1 86 yX0_placesAhead, .instanceMethod yX0_placesAhead, .selects RX0 yX0_placesAhead yX0_placesAhead, .initialized RX0, .code yX0_placesAhead cX0_placesAhead 2 (some .int), .fieldLink RX0 7 "RowSparse$Support" "starts" "[I"] ++ wsX10 ++ wsX00)
def wsX1_at : List Cond := .code yX1_at cX1_at 3 (some .int) :: ([.fieldLink RX1 33 "RowSparse" "support" "LRowSparse$Support;", .methodLink RX1 62 yX1_hasPlace, .instanceMethod yX1_hasPlace, .selects RX1 yX1_hasPlace yX1_hasPlace, .initialized RX1, .code yX1_hasPlace cX1_hasPlace 3 (some .boolean), .fieldLink RX1 13 "RowSparse" "rows" "I", .fieldLink RX1 17 "RowSparse" "cols" "I", .methodLink RX1 96 yX1_isWithin, .static yX1_isWithin, .code yX1_isWithin cX1_isWithin 2 (some .boolean), .methodLink RX1 90 yX0_entry, .instanceMethod yX0_entry, .selects RX0 yX0_entry yX0_entry, .initialized RX0, .code yX0_entry cX0_entry 5 (some .int), .fieldLink RX0 7 "RowSparse$Support" "starts" "[I", .fieldLink RX0 13 "RowSparse$Support" "columns" "[I", .fieldLink RX0 16 "RowSparse$Support" "values" "[I"] ++ wsX10 ++ wsX00)
def wsX1_rowStart : List Cond := .code yX1_rowStart cX1_rowStart 2 (some .int) :: ([.fieldLink RX1 13 "RowSparse" "rows" "I", .fieldLink RX1 33 "RowSparse" "support" "LRowSparse$Support;", .methodLink RX1 86 yX0_placesAhead, .instanceMethod yX0_placesAhead, .selects RX0 yX0_placesAhead yX0_placesAhead, .initialized RX0, .code yX0_placesAhead cX0_placesAhead 2 (some .int), .fieldLink RX0 7 "RowSparse$Support" "starts" "[I"] ++ wsX10 ++ wsX00)
def wsX1_colAt : List Cond := .code yX1_colAt cX1_colAt 2 (some .int) :: ([.fieldLink RX1 33 "RowSparse" "support" "LRowSparse$Support;", .fieldLink RX1 13 "RowSparse" "rows" "I", .methodLink RX1 86 yX0_placesAhead, .instanceMethod yX0_placesAhead, .selects RX0 yX0_placesAhead yX0_placesAhead, .initialized RX0, .code yX0_placesAhead cX0_placesAhead 2 (some .int), .fieldLink RX0 7 "RowSparse$Support" "starts" "[I", .methodLink RX1 93 yX0_column, .instanceMethod yX0_column, .selects RX0 yX0_column yX0_column, .code yX0_column cX0_column 2 (some .int), .fieldLink RX0 13 "RowSparse$Support" "columns" "[I"] ++ wsX10 ++ wsX00)
def wsX1_setX : List Cond := .code yX1_setX cX1_setX 3 (some .boolean) :: ([.fieldLink RX1 17 "RowSparse" "cols" "I", .fieldLink RX1 53 "RowSparse" "vector" "[I", .methodLink RX1 96 yX1_isWithin, .static yX1_isWithin, .initialized RX1, .code yX1_isWithin cX1_isWithin 2 (some .boolean)] ++ wsX10)
def wsX1_multiplyVector : List Cond := .code yX1_multiplyVector cX1_multiplyVector 2 (some .boolean) :: ([.fieldLink RX1 13 "RowSparse" "rows" "I", .fieldLink RX1 56 "RowSparse" "product" "[I", .fieldLink RX1 33 "RowSparse" "support" "LRowSparse$Support;", .fieldLink RX1 53 "RowSparse" "vector" "[I", .methodLink RX1 99 yX0_rowTimes, .instanceMethod yX0_rowTimes, .selects RX0 yX0_rowTimes yX0_rowTimes, .initialized RX0, .code yX0_rowTimes cX0_rowTimes 6 (some .int), .fieldLink RX0 7 "RowSparse$Support" "starts" "[I", .fieldLink RX0 16 "RowSparse$Support" "values" "[I", .fieldLink RX0 13 "RowSparse$Support" "columns" "[I"] ++ wsX10 ++ wsX00)
def wsX1_y : List Cond := .code yX1_y cX1_y 2 (some .int) :: ([.fieldLink RX1 13 "RowSparse" "rows" "I", .fieldLink RX1 56 "RowSparse" "product" "[I", .methodLink RX1 96 yX1_isWithin, .static yX1_isWithin, .initialized RX1, .code yX1_isWithin cX1_isWithin 2 (some .boolean)] ++ wsX10)
def wsX1_transpose_r1 : List Cond := [Cond.fieldLink RX1 50 "RowSparse" "pending" "I", Cond.fieldLink RX1 17 "RowSparse" "cols" "I", Cond.fieldLink RX1 59 "RowSparse" "line" "[I", Cond.fieldLink RX1 13 "RowSparse" "rows" "I", Cond.fieldLink RX1 33 "RowSparse" "support" "LRowSparse$Support;", Cond.fieldLink RX1 37 "RowSparse" "spare" "LRowSparse$Support;", Cond.fieldLink RX1 53 "RowSparse" "vector" "[I", Cond.fieldLink RX1 56 "RowSparse" "product" "[I", Cond.methodLink RX1 66 yJ7_fill_53178, Cond.static yJ7_fill_53178, Cond.initialized RJ7, Cond.code yJ7_fill_53178 cJ7_fill_53178 4 none, Cond.methodLink RX1 90 yX0_entry, Cond.instanceMethod yX0_entry, Cond.selects RX0 yX0_entry yX0_entry, Cond.initialized RX0, Cond.code yX0_entry cX0_entry 5 (some .int), Cond.fieldLink RX0 7 "RowSparse$Support" "starts" "[I", Cond.fieldLink RX0 13 "RowSparse$Support" "columns" "[I", Cond.fieldLink RX0 16 "RowSparse$Support" "values" "[I", Cond.methodLink RX1 79 yX0_putRow, Cond.instanceMethod yX0_putRow, Cond.selects RX0 yX0_putRow yX0_putRow, Cond.code yX0_putRow cX0_putRow 5 (some .boolean)]
def wsX1_transpose_r2 : List Cond := [Cond.methodLink RX1 83 yX1_swapSupports, Cond.instanceMethod yX1_swapSupports, Cond.selects RX1 yX1_swapSupports yX1_swapSupports, Cond.initialized RX1, Cond.code yX1_swapSupports cX1_swapSupports 2 none]
def wsX1_transpose : List Cond := .code yX1_transpose cX1_transpose 3 (some .boolean) :: ((wsX1_transpose_r1 ++ wsX1_transpose_r2) ++ wsX10 ++ wsX00)
def wsX1_square_r1 : List Cond := [Cond.fieldLink RX1 13 "RowSparse" "rows" "I", Cond.fieldLink RX1 17 "RowSparse" "cols" "I", Cond.fieldLink RX1 59 "RowSparse" "line" "[I", Cond.fieldLink RX1 33 "RowSparse" "support" "LRowSparse$Support;", Cond.fieldLink RX1 37 "RowSparse" "spare" "LRowSparse$Support;", Cond.methodLink RX1 66 yJ7_fill_53178, Cond.static yJ7_fill_53178, Cond.initialized RJ7, Cond.code yJ7_fill_53178 cJ7_fill_53178 4 none, Cond.methodLink RX1 103 yX0_addSquaredRowTo, Cond.instanceMethod yX0_addSquaredRowTo, Cond.selects RX0 yX0_addSquaredRowTo yX0_addSquaredRowTo, Cond.initialized RX0, Cond.code yX0_addSquaredRowTo cX0_addSquaredRowTo 5 none, Cond.fieldLink RX0 7 "RowSparse$Support" "starts" "[I", Cond.fieldLink RX0 13 "RowSparse$Support" "columns" "[I", Cond.fieldLink RX0 16 "RowSparse$Support" "values" "[I", Cond.methodLink RX0 19 yX0_addRowTo, Cond.instanceMethod yX0_addRowTo, Cond.selects RX0 yX0_addRowTo yX0_addRowTo, Cond.code yX0_addRowTo cX0_addRowTo 6 none, Cond.methodLink RX1 79 yX0_putRow, Cond.instanceMethod yX0_putRow, Cond.selects RX0 yX0_putRow yX0_putRow]
def wsX1_square_r2 : List Cond := [Cond.code yX0_putRow cX0_putRow 5 (some .boolean), Cond.methodLink RX1 83 yX1_swapSupports, Cond.instanceMethod yX1_swapSupports, Cond.selects RX1 yX1_swapSupports yX1_swapSupports, Cond.initialized RX1, Cond.code yX1_swapSupports cX1_swapSupports 2 none, Cond.methodLink RX1 86 yX0_placesAhead, Cond.instanceMethod yX0_placesAhead, Cond.selects RX0 yX0_placesAhead yX0_placesAhead, Cond.code yX0_placesAhead cX0_placesAhead 2 (some .int)]
def wsX1_square : List Cond := .code yX1_square cX1_square 2 (some .int) :: ((wsX1_square_r1 ++ wsX1_square_r2) ++ wsX10 ++ wsX00)
def wsX1_count : List Cond := .code yX1_count cX1_count 2 (some .int) :: ([.fieldLink RX1 13 "RowSparse" "rows" "I", .fieldLink RX1 17 "RowSparse" "cols" "I", .fieldLink RX1 20 "RowSparse" "cap" "I", .fieldLink RX1 50 "RowSparse" "pending" "I"] ++ wsX10)
def wsX2_within : List Cond := .code yX2_within cX2_within 2 (some .int) :: ([])
def wsX2_init : List Cond := .code yX2_init cX2_init 4 none :: ([.methodLink RX2 1 objectInit, .instanceMethod objectInit, .code objectInit ⟨#[0xb1]⟩ 1 none, .arrayClass .int, .fieldLink RX2 7 "RowSparseModel" "table" "[I", .fieldLink RX2 13 "RowSparseModel" "other" "[I", .fieldLink RX2 16 "RowSparseModel" "more" "[I", .fieldLink RX2 19 "RowSparseModel" "x" "[I", .fieldLink RX2 22 "RowSparseModel" "y" "[I", .fieldLink RX2 29 "RowSparseModel" "rows" "I", .fieldLink RX2 33 "RowSparseModel" "cols" "I", .fieldLink RX2 36 "RowSparseModel" "cap" "I", .methodLink RX2 25 yX2_within, .static yX2_within, .initialized RX2, .code yX2_within cX2_within 2 (some .int)] ++ wsX20)
def wsX2_in : List Cond := .code yX2_in cX2_in 3 (some .boolean) :: ([])
def wsX2_isPlace : List Cond := .code yX2_isPlace cX2_isPlace 3 (some .boolean) :: ([.fieldLink RX2 29 "RowSparseModel" "rows" "I", .fieldLink RX2 33 "RowSparseModel" "cols" "I", .methodLink RX2 39 yX2_in, .static yX2_in, .initialized RX2, .code yX2_in cX2_in 3 (some .boolean)] ++ wsX20)
def wsX2_add : List Cond := .code yX2_add cX2_add 4 (some .boolean) :: ([.fieldLink RX2 47 "RowSparseModel" "pending" "I", .fieldLink RX2 36 "RowSparseModel" "cap" "I", .fieldLink RX2 16 "RowSparseModel" "more" "[I", .methodLink RX2 43 yX2_isPlace, .instanceMethod yX2_isPlace, .selects RX2 yX2_isPlace yX2_isPlace, .initialized RX2, .code yX2_isPlace cX2_isPlace 3 (some .boolean), .fieldLink RX2 29 "RowSparseModel" "rows" "I", .fieldLink RX2 33 "RowSparseModel" "cols" "I", .methodLink RX2 39 yX2_in, .static yX2_in, .code yX2_in cX2_in 3 (some .boolean)] ++ wsX20)
def wsX2_many : List Cond := .code yX2_many cX2_many 6 (some .int) :: ([.fieldLink RX2 33 "RowSparseModel" "cols" "I"] ++ wsX20)
def wsX2_turns : List Cond := .code yX2_turns cX2_turns 2 none :: ([.fieldLink RX2 7 "RowSparseModel" "table" "[I", .fieldLink RX2 13 "RowSparseModel" "other" "[I"] ++ wsX20)
def wsX2_becomes : List Cond := .code yX2_becomes cX2_becomes 2 (some .int) :: ([.fieldLink RX2 13 "RowSparseModel" "other" "[I", .fieldLink RX2 29 "RowSparseModel" "rows" "I", .fieldLink RX2 36 "RowSparseModel" "cap" "I", .methodLink RX2 50 yX2_many, .instanceMethod yX2_many, .selects RX2 yX2_many yX2_many, .initialized RX2, .code yX2_many cX2_many 6 (some .int), .fieldLink RX2 33 "RowSparseModel" "cols" "I", .methodLink RX2 54 yX2_turns, .instanceMethod yX2_turns, .selects RX2 yX2_turns yX2_turns, .code yX2_turns cX2_turns 2 none, .fieldLink RX2 7 "RowSparseModel" "table" "[I"] ++ wsX20)
def wsX2_build : List Cond := .code yX2_build cX2_build 3 (some .int) :: ([.fieldLink RX2 29 "RowSparseModel" "rows" "I", .fieldLink RX2 33 "RowSparseModel" "cols" "I", .fieldLink RX2 13 "RowSparseModel" "other" "[I", .fieldLink RX2 7 "RowSparseModel" "table" "[I", .fieldLink RX2 16 "RowSparseModel" "more" "[I", .fieldLink RX2 47 "RowSparseModel" "pending" "I", .methodLink RX2 57 yX2_becomes, .instanceMethod yX2_becomes, .selects RX2 yX2_becomes yX2_becomes, .initialized RX2, .code yX2_becomes cX2_becomes 2 (some .int), .fieldLink RX2 36 "RowSparseModel" "cap" "I", .methodLink RX2 50 yX2_many, .instanceMethod yX2_many, .selects RX2 yX2_many yX2_many, .code yX2_many cX2_many 6 (some .int), .methodLink RX2 54 yX2_turns, .instanceMethod yX2_turns, .selects RX2 yX2_turns yX2_turns, .code yX2_turns cX2_turns 2 none] ++ wsX20)
def wsX2_nnz : List Cond := .code yX2_nnz cX2_nnz 1 (some .int) :: ([.fieldLink RX2 7 "RowSparseModel" "table" "[I", .fieldLink RX2 29 "RowSparseModel" "rows" "I", .methodLink RX2 50 yX2_many, .instanceMethod yX2_many, .selects RX2 yX2_many yX2_many, .initialized RX2, .code yX2_many cX2_many 6 (some .int), .fieldLink RX2 33 "RowSparseModel" "cols" "I"] ++ wsX20)
def wsX2_at : List Cond := .code yX2_at cX2_at 3 (some .int) :: ([.fieldLink RX2 7 "RowSparseModel" "table" "[I", .methodLink RX2 43 yX2_isPlace, .instanceMethod yX2_isPlace, .selects RX2 yX2_isPlace yX2_isPlace, .initialized RX2, .code yX2_isPlace cX2_isPlace 3 (some .boolean), .fieldLink RX2 29 "RowSparseModel" "rows" "I", .fieldLink RX2 33 "RowSparseModel" "cols" "I", .methodLink RX2 39 yX2_in, .static yX2_in, .code yX2_in cX2_in 3 (some .boolean)] ++ wsX20)
def wsX2_rowStart : List Cond := .code yX2_rowStart cX2_rowStart 2 (some .int) :: ([.fieldLink RX2 29 "RowSparseModel" "rows" "I", .fieldLink RX2 7 "RowSparseModel" "table" "[I", .methodLink RX2 39 yX2_in, .static yX2_in, .initialized RX2, .code yX2_in cX2_in 3 (some .boolean), .methodLink RX2 50 yX2_many, .instanceMethod yX2_many, .selects RX2 yX2_many yX2_many, .code yX2_many cX2_many 6 (some .int), .fieldLink RX2 33 "RowSparseModel" "cols" "I"] ++ wsX20)
def wsX2_colAt : List Cond := .code yX2_colAt cX2_colAt 5 (some .int) :: ([.fieldLink RX2 29 "RowSparseModel" "rows" "I", .fieldLink RX2 33 "RowSparseModel" "cols" "I", .fieldLink RX2 7 "RowSparseModel" "table" "[I"] ++ wsX20)
def wsX2_setX : List Cond := .code yX2_setX cX2_setX 3 (some .boolean) :: ([.fieldLink RX2 33 "RowSparseModel" "cols" "I", .fieldLink RX2 19 "RowSparseModel" "x" "[I", .methodLink RX2 39 yX2_in, .static yX2_in, .initialized RX2, .code yX2_in cX2_in 3 (some .boolean)] ++ wsX20)
def wsX2_multiplyVector : List Cond := .code yX2_multiplyVector cX2_multiplyVector 4 (some .boolean) :: ([.fieldLink RX2 29 "RowSparseModel" "rows" "I", .fieldLink RX2 33 "RowSparseModel" "cols" "I", .fieldLink RX2 7 "RowSparseModel" "table" "[I", .fieldLink RX2 19 "RowSparseModel" "x" "[I", .fieldLink RX2 22 "RowSparseModel" "y" "[I"] ++ wsX20)
def wsX2_y : List Cond := .code yX2_y cX2_y 2 (some .int) :: ([.fieldLink RX2 29 "RowSparseModel" "rows" "I", .fieldLink RX2 22 "RowSparseModel" "y" "[I", .methodLink RX2 39 yX2_in, .static yX2_in, .initialized RX2, .code yX2_in cX2_in 3 (some .boolean)] ++ wsX20)
def wsX2_transpose : List Cond := .code yX2_transpose cX2_transpose 3 (some .boolean) :: ([.fieldLink RX2 47 "RowSparseModel" "pending" "I", .fieldLink RX2 29 "RowSparseModel" "rows" "I", .fieldLink RX2 33 "RowSparseModel" "cols" "I", .fieldLink RX2 13 "RowSparseModel" "other" "[I", .fieldLink RX2 7 "RowSparseModel" "table" "[I", .fieldLink RX2 19 "RowSparseModel" "x" "[I", .fieldLink RX2 22 "RowSparseModel" "y" "[I", .methodLink RX2 54 yX2_turns, .instanceMethod yX2_turns, .selects RX2 yX2_turns yX2_turns, .initialized RX2, .code yX2_turns cX2_turns 2 none] ++ wsX20)
def wsX2_square : List Cond := .code yX2_square cX2_square 5 (some .int) :: ([.fieldLink RX2 29 "RowSparseModel" "rows" "I", .fieldLink RX2 33 "RowSparseModel" "cols" "I", .fieldLink RX2 7 "RowSparseModel" "table" "[I", .fieldLink RX2 13 "RowSparseModel" "other" "[I", .methodLink RX2 57 yX2_becomes, .instanceMethod yX2_becomes, .selects RX2 yX2_becomes yX2_becomes, .initialized RX2, .code yX2_becomes cX2_becomes 2 (some .int), .fieldLink RX2 36 "RowSparseModel" "cap" "I", .methodLink RX2 50 yX2_many, .instanceMethod yX2_many, .selects RX2 yX2_many yX2_many, .code yX2_many cX2_many 6 (some .int), .methodLink RX2 54 yX2_turns, .instanceMethod yX2_turns, .selects RX2 yX2_turns yX2_turns, .code yX2_turns cX2_turns 2 none] ++ wsX20)
def wsX2_count : List Cond := .code yX2_count cX2_count 2 (some .int) :: ([.fieldLink RX2 29 "RowSparseModel" "rows" "I", .fieldLink RX2 33 "RowSparseModel" "cols" "I", .fieldLink RX2 36 "RowSparseModel" "cap" "I", .fieldLink RX2 47 "RowSparseModel" "pending" "I"] ++ wsX20)
def wsJ9_max_7cf53 : List Cond := .code yJ9_max_7cf53 cJ9_max_7cf53 2 (some .int) :: ([])
def wsJ9_min_7cf53 : List Cond := .code yJ9_min_7cf53 cJ9_min_7cf53 2 (some .int) :: ([])
def wsL_cell : List Cond := .code yL_cell cL_cell 2 (some .int) :: ([])
def wsL_law_r1 : List Cond := [Cond.classLink RL 7 RX1, Cond.instantiable RX1 12, Cond.initialized RX1, Cond.classLink RL 18 RX2, Cond.instantiable RX2 9, Cond.initialized RX2, Cond.methodLink RL 9 yL_cell, Cond.static yL_cell, Cond.initialized RL, Cond.code yL_cell cL_cell 2 (some .int), Cond.methodLink RL 15 yX1_init, Cond.instanceMethod yX1_init, Cond.code yX1_init cX1_init 5 none, Cond.methodLink RX1 1 objectInit, Cond.instanceMethod objectInit, Cond.code objectInit ⟨#[0xb1]⟩ 1 none, Cond.fieldLink RX1 13 "RowSparse" "rows" "I", Cond.fieldLink RX1 17 "RowSparse" "cols" "I", Cond.fieldLink RX1 20 "RowSparse" "cap" "I", Cond.methodLink RX1 23 Lib.Math.max.name, Cond.static Lib.Math.max.name, Cond.initialized "java/lang/Math", Cond.code Lib.Math.max.name Lib.Math.max.code 2 (some .int), Cond.classLink RX1 28 RX0]
def wsL_law_r2 : List Cond := [Cond.instantiable RX0 3, Cond.initialized RX0, Cond.fieldLink RX1 33 "RowSparse" "support" "LRowSparse$Support;", Cond.fieldLink RX1 37 "RowSparse" "spare" "LRowSparse$Support;", Cond.arrayClass .int, Cond.fieldLink RX1 40 "RowSparse" "pendingRows" "[I", Cond.fieldLink RX1 44 "RowSparse" "pendingCols" "[I", Cond.fieldLink RX1 47 "RowSparse" "pendingValues" "[I", Cond.fieldLink RX1 50 "RowSparse" "pending" "I", Cond.fieldLink RX1 53 "RowSparse" "vector" "[I", Cond.fieldLink RX1 56 "RowSparse" "product" "[I", Cond.fieldLink RX1 59 "RowSparse" "line" "[I", Cond.methodLink RX1 9 yX1_nearest, Cond.static yX1_nearest, Cond.code yX1_nearest cX1_nearest 2 (some .int), Cond.methodLink RX1 106 Lib.Math.min.name, Cond.static Lib.Math.min.name, Cond.code Lib.Math.min.name Lib.Math.min.code 2 (some .int), Cond.methodLink RX1 30 yX0_init, Cond.instanceMethod yX0_init, Cond.code yX0_init cX0_init 3 none, Cond.methodLink RX0 1 objectInit, Cond.fieldLink RX0 7 "RowSparse$Support" "starts" "[I", Cond.fieldLink RX0 13 "RowSparse$Support" "columns" "[I"]
def wsL_law_r3 : List Cond := [Cond.fieldLink RX0 16 "RowSparse$Support" "values" "[I", Cond.methodLink RL 20 yX2_init, Cond.instanceMethod yX2_init, Cond.code yX2_init cX2_init 4 none, Cond.methodLink RX2 1 objectInit, Cond.fieldLink RX2 7 "RowSparseModel" "table" "[I", Cond.fieldLink RX2 13 "RowSparseModel" "other" "[I", Cond.fieldLink RX2 16 "RowSparseModel" "more" "[I", Cond.fieldLink RX2 19 "RowSparseModel" "x" "[I", Cond.fieldLink RX2 22 "RowSparseModel" "y" "[I", Cond.fieldLink RX2 29 "RowSparseModel" "rows" "I", Cond.fieldLink RX2 33 "RowSparseModel" "cols" "I", Cond.fieldLink RX2 36 "RowSparseModel" "cap" "I", Cond.methodLink RX2 25 yX2_within, Cond.static yX2_within, Cond.code yX2_within cX2_within 2 (some .int), Cond.methodLink RL 21 yX1_add, Cond.instanceMethod yX1_add, Cond.selects RX1 yX1_add yX1_add, Cond.code yX1_add cX1_add 4 (some .boolean), Cond.methodLink RX1 62 yX1_hasPlace, Cond.instanceMethod yX1_hasPlace, Cond.selects RX1 yX1_hasPlace yX1_hasPlace, Cond.code yX1_hasPlace cX1_hasPlace 3 (some .boolean)]
def wsL_law_r4 : List Cond := [Cond.methodLink RX1 96 yX1_isWithin, Cond.static yX1_isWithin, Cond.code yX1_isWithin cX1_isWithin 2 (some .boolean), Cond.methodLink RL 25 yX2_add, Cond.instanceMethod yX2_add, Cond.selects RX2 yX2_add yX2_add, Cond.code yX2_add cX2_add 4 (some .boolean), Cond.fieldLink RX2 47 "RowSparseModel" "pending" "I", Cond.methodLink RX2 43 yX2_isPlace, Cond.instanceMethod yX2_isPlace, Cond.selects RX2 yX2_isPlace yX2_isPlace, Cond.code yX2_isPlace cX2_isPlace 3 (some .boolean), Cond.methodLink RX2 39 yX2_in, Cond.static yX2_in, Cond.code yX2_in cX2_in 3 (some .boolean), Cond.methodLink RL 26 yX1_build, Cond.instanceMethod yX1_build, Cond.selects RX1 yX1_build yX1_build, Cond.code yX1_build cX1_build 2 (some .int), Cond.methodLink RX1 66 yJ7_fill_53178, Cond.static yJ7_fill_53178, Cond.initialized RJ7, Cond.code yJ7_fill_53178 cJ7_fill_53178 4 none, Cond.methodLink RX1 72 yX0_addRowTo]
def wsL_law_r5 : List Cond := [Cond.instanceMethod yX0_addRowTo, Cond.selects RX0 yX0_addRowTo yX0_addRowTo, Cond.code yX0_addRowTo cX0_addRowTo 6 none, Cond.methodLink RX1 76 yX1_addPendingTo, Cond.instanceMethod yX1_addPendingTo, Cond.selects RX1 yX1_addPendingTo yX1_addPendingTo, Cond.code yX1_addPendingTo cX1_addPendingTo 4 none, Cond.methodLink RX1 79 yX0_putRow, Cond.instanceMethod yX0_putRow, Cond.selects RX0 yX0_putRow yX0_putRow, Cond.code yX0_putRow cX0_putRow 5 (some .boolean), Cond.methodLink RX1 83 yX1_swapSupports, Cond.instanceMethod yX1_swapSupports, Cond.selects RX1 yX1_swapSupports yX1_swapSupports, Cond.code yX1_swapSupports cX1_swapSupports 2 none, Cond.methodLink RX1 86 yX0_placesAhead, Cond.instanceMethod yX0_placesAhead, Cond.selects RX0 yX0_placesAhead yX0_placesAhead, Cond.code yX0_placesAhead cX0_placesAhead 2 (some .int), Cond.methodLink RL 30 yX2_build, Cond.instanceMethod yX2_build, Cond.selects RX2 yX2_build yX2_build, Cond.code yX2_build cX2_build 3 (some .int), Cond.methodLink RX2 57 yX2_becomes]
def wsL_law_r6 : List Cond := [Cond.instanceMethod yX2_becomes, Cond.selects RX2 yX2_becomes yX2_becomes, Cond.code yX2_becomes cX2_becomes 2 (some .int), Cond.methodLink RX2 50 yX2_many, Cond.instanceMethod yX2_many, Cond.selects RX2 yX2_many yX2_many, Cond.code yX2_many cX2_many 6 (some .int), Cond.methodLink RX2 54 yX2_turns, Cond.instanceMethod yX2_turns, Cond.selects RX2 yX2_turns yX2_turns, Cond.code yX2_turns cX2_turns 2 none, Cond.methodLink RL 31 yX1_nnz, Cond.instanceMethod yX1_nnz, Cond.selects RX1 yX1_nnz yX1_nnz, Cond.code yX1_nnz cX1_nnz 1 (some .int), Cond.methodLink RL 34 yX2_nnz, Cond.instanceMethod yX2_nnz, Cond.selects RX2 yX2_nnz yX2_nnz, Cond.code yX2_nnz cX2_nnz 1 (some .int), Cond.methodLink RL 35 yX1_at, Cond.instanceMethod yX1_at, Cond.selects RX1 yX1_at yX1_at, Cond.code yX1_at cX1_at 3 (some .int), Cond.methodLink RX1 90 yX0_entry]
def wsL_law_r7 : List Cond := [Cond.instanceMethod yX0_entry, Cond.selects RX0 yX0_entry yX0_entry, Cond.code yX0_entry cX0_entry 5 (some .int), Cond.methodLink RL 39 yX2_at, Cond.instanceMethod yX2_at, Cond.selects RX2 yX2_at yX2_at, Cond.code yX2_at cX2_at 3 (some .int), Cond.methodLink RL 40 yX1_rowStart, Cond.instanceMethod yX1_rowStart, Cond.selects RX1 yX1_rowStart yX1_rowStart, Cond.code yX1_rowStart cX1_rowStart 2 (some .int), Cond.methodLink RL 44 yX2_rowStart, Cond.instanceMethod yX2_rowStart, Cond.selects RX2 yX2_rowStart yX2_rowStart, Cond.code yX2_rowStart cX2_rowStart 2 (some .int), Cond.methodLink RL 45 yX1_colAt, Cond.instanceMethod yX1_colAt, Cond.selects RX1 yX1_colAt yX1_colAt, Cond.code yX1_colAt cX1_colAt 2 (some .int), Cond.methodLink RX1 93 yX0_column, Cond.instanceMethod yX0_column, Cond.selects RX0 yX0_column yX0_column, Cond.code yX0_column cX0_column 2 (some .int), Cond.methodLink RL 48 yX2_colAt]
def wsL_law_r8 : List Cond := [Cond.instanceMethod yX2_colAt, Cond.selects RX2 yX2_colAt yX2_colAt, Cond.code yX2_colAt cX2_colAt 5 (some .int), Cond.methodLink RL 49 yX1_setX, Cond.instanceMethod yX1_setX, Cond.selects RX1 yX1_setX yX1_setX, Cond.code yX1_setX cX1_setX 3 (some .boolean), Cond.methodLink RL 53 yX2_setX, Cond.instanceMethod yX2_setX, Cond.selects RX2 yX2_setX yX2_setX, Cond.code yX2_setX cX2_setX 3 (some .boolean), Cond.methodLink RL 54 yX1_multiplyVector, Cond.instanceMethod yX1_multiplyVector, Cond.selects RX1 yX1_multiplyVector yX1_multiplyVector, Cond.code yX1_multiplyVector cX1_multiplyVector 2 (some .boolean), Cond.methodLink RX1 99 yX0_rowTimes, Cond.instanceMethod yX0_rowTimes, Cond.selects RX0 yX0_rowTimes yX0_rowTimes, Cond.code yX0_rowTimes cX0_rowTimes 6 (some .int), Cond.methodLink RL 58 yX2_multiplyVector, Cond.instanceMethod yX2_multiplyVector, Cond.selects RX2 yX2_multiplyVector yX2_multiplyVector, Cond.code yX2_multiplyVector cX2_multiplyVector 4 (some .boolean), Cond.methodLink RL 59 yX1_y]
def wsL_law_r9 : List Cond := [Cond.instanceMethod yX1_y, Cond.selects RX1 yX1_y yX1_y, Cond.code yX1_y cX1_y 2 (some .int), Cond.methodLink RL 62 yX2_y, Cond.instanceMethod yX2_y, Cond.selects RX2 yX2_y yX2_y, Cond.code yX2_y cX2_y 2 (some .int), Cond.methodLink RL 63 yX1_transpose, Cond.instanceMethod yX1_transpose, Cond.selects RX1 yX1_transpose yX1_transpose, Cond.code yX1_transpose cX1_transpose 3 (some .boolean), Cond.methodLink RL 66 yX2_transpose, Cond.instanceMethod yX2_transpose, Cond.selects RX2 yX2_transpose yX2_transpose, Cond.code yX2_transpose cX2_transpose 3 (some .boolean), Cond.methodLink RL 67 yX1_square, Cond.instanceMethod yX1_square, Cond.selects RX1 yX1_square yX1_square, Cond.code yX1_square cX1_square 2 (some .int), Cond.methodLink RX1 103 yX0_addSquaredRowTo, Cond.instanceMethod yX0_addSquaredRowTo, Cond.selects RX0 yX0_addSquaredRowTo yX0_addSquaredRowTo, Cond.code yX0_addSquaredRowTo cX0_addSquaredRowTo 5 none, Cond.methodLink RX0 19 yX0_addRowTo]
def wsL_law_r10 : List Cond := [Cond.methodLink RL 70 yX2_square, Cond.instanceMethod yX2_square, Cond.selects RX2 yX2_square yX2_square, Cond.code yX2_square cX2_square 5 (some .int), Cond.methodLink RL 71 yX1_count, Cond.instanceMethod yX1_count, Cond.selects RX1 yX1_count yX1_count, Cond.code yX1_count cX1_count 2 (some .int), Cond.methodLink RL 74 yX2_count, Cond.instanceMethod yX2_count, Cond.selects RX2 yX2_count yX2_count, Cond.code yX2_count cX2_count 2 (some .int)]
def wsL_law : List Cond := (wsL_law_r1 ++ (wsL_law_r2 ++ (wsL_law_r3 ++ (wsL_law_r4 ++ (wsL_law_r5 ++ (wsL_law_r6 ++ (wsL_law_r7 ++ (wsL_law_r8 ++ (wsL_law_r9 ++ wsL_law_r10))))))))) ++ wsX10 ++ wsX20 ++ wsX00 ++ ([] : List Cond)
set_option maxRecDepth 20000 in
theorem wsL_law_in : ∀ w ∈ wsL_law, w ∈ lw_tbl := fun w h => (goodIn_p wsL_law [181, 17, 20, 29, 23, 26, 34, 186, 190, 87, 91, 94, 222, 226, 229, 98, 101, 105, 109, 113, 117, 121, 233, 237, 241, 245, 125, 249, 129, 133, 253, 137, 257, 141, 145, 261, 149, 265, 153, 157, 269, 161, 273, 165, 277, 169, 173, 281, 178, 285] (by decide +kernel) (by decide +kernel) w h).1
theorem inlX0 : ∀ w ∈ wsX00, w ∈ wsL_law := fun _ h => List.mem_append_left _ (List.mem_append_right _ h)
theorem inX0 : ∀ w ∈ wsX00, w ∈ lw_tbl := fun w h => wsL_law_in w (inlX0 w h)
theorem inlX1 : ∀ w ∈ wsX10, w ∈ wsL_law := fun _ h => List.mem_append_left _ (List.mem_append_left _ (List.mem_append_left _ (List.mem_append_right _ h)))
theorem inX1 : ∀ w ∈ wsX10, w ∈ lw_tbl := fun w h => wsL_law_in w (inlX1 w h)
theorem inlX2 : ∀ w ∈ wsX20, w ∈ wsL_law := fun _ h => List.mem_append_left _ (List.mem_append_left _ (List.mem_append_right _ h))
theorem inX2 : ∀ w ∈ wsX20, w ∈ lw_tbl := fun w h => wsL_law_in w (inlX2 w h)
theorem inJ9 : ∀ w ∈ wsJ90, w ∈ lw_tbl := by decide +kernel
theorem inJ7 : ∀ w ∈ wsJ70, w ∈ lw_tbl := by decide +kernel
theorem dX0_init_0 : decode cX0_init 0 = .ok (.aload_n 0, 1) := by decide +kernel
theorem dX0_init_1 : decode cX0_init 1 = .ok (.invokespecial 1, 3) := by decide +kernel
theorem dX0_init_4 : decode cX0_init 4 = .ok (.aload_n 0, 1) := by decide +kernel
theorem dX0_init_5 : decode cX0_init 5 = .ok (.iload_n 1, 1) := by decide +kernel
theorem dX0_init_6 : decode cX0_init 6 = .ok (.iconst 1, 1) := by decide +kernel
theorem dX0_init_7 : decode cX0_init 7 = .ok (.iadd, 1) := by decide +kernel
theorem dX0_init_8 : decode cX0_init 8 = .ok (.newarray .int, 2) := by decide +kernel
theorem dX0_init_10 : decode cX0_init 10 = .ok (.putfield 7, 3) := by decide +kernel
theorem dX0_init_13 : decode cX0_init 13 = .ok (.aload_n 0, 1) := by decide +kernel
theorem dX0_init_14 : decode cX0_init 14 = .ok (.iload_n 2, 1) := by decide +kernel
theorem dX0_init_15 : decode cX0_init 15 = .ok (.newarray .int, 2) := by decide +kernel
theorem dX0_init_17 : decode cX0_init 17 = .ok (.putfield 13, 3) := by decide +kernel
theorem dX0_init_20 : decode cX0_init 20 = .ok (.aload_n 0, 1) := by decide +kernel
theorem dX0_init_21 : decode cX0_init 21 = .ok (.iload_n 2, 1) := by decide +kernel
theorem dX0_init_22 : decode cX0_init 22 = .ok (.newarray .int, 2) := by decide +kernel
theorem dX0_init_24 : decode cX0_init 24 = .ok (.putfield 16, 3) := by decide +kernel
theorem dX0_init_27 : decode cX0_init 27 = .ok (.return_, 1) := by decide +kernel
theorem dX0_placesAhead_0 : decode cX0_placesAhead 0 = .ok (.aload_n 0, 1) := by decide +kernel
theorem dX0_placesAhead_1 : decode cX0_placesAhead 1 = .ok (.getfield 7, 3) := by decide +kernel
theorem dX0_placesAhead_4 : decode cX0_placesAhead 4 = .ok (.iload_n 1, 1) := by decide +kernel
theorem dX0_placesAhead_5 : decode cX0_placesAhead 5 = .ok (.iaload, 1) := by decide +kernel
theorem dX0_placesAhead_6 : decode cX0_placesAhead 6 = .ok (.ireturn, 1) := by decide +kernel
theorem dX0_column_0 : decode cX0_column 0 = .ok (.aload_n 0, 1) := by decide +kernel
theorem dX0_column_1 : decode cX0_column 1 = .ok (.getfield 13, 3) := by decide +kernel
theorem dX0_column_4 : decode cX0_column 4 = .ok (.iload_n 1, 1) := by decide +kernel
theorem dX0_column_5 : decode cX0_column 5 = .ok (.iaload, 1) := by decide +kernel
theorem dX0_column_6 : decode cX0_column 6 = .ok (.ireturn, 1) := by decide +kernel
theorem dX0_entry_0 : decode cX0_entry 0 = .ok (.aload_n 0, 1) := by decide +kernel
theorem dX0_entry_1 : decode cX0_entry 1 = .ok (.getfield 7, 3) := by decide +kernel
theorem dX0_entry_4 : decode cX0_entry 4 = .ok (.iload_n 1, 1) := by decide +kernel
theorem dX0_entry_5 : decode cX0_entry 5 = .ok (.iconst 1, 1) := by decide +kernel
theorem dX0_entry_6 : decode cX0_entry 6 = .ok (.iadd, 1) := by decide +kernel
theorem dX0_entry_7 : decode cX0_entry 7 = .ok (.iaload, 1) := by decide +kernel
theorem dX0_entry_8 : decode cX0_entry 8 = .ok (.istore_n 3, 1) := by decide +kernel
theorem dX0_entry_9 : decode cX0_entry 9 = .ok (.aload_n 0, 1) := by decide +kernel
theorem dX0_entry_10 : decode cX0_entry 10 = .ok (.getfield 7, 3) := by decide +kernel
theorem dX0_entry_13 : decode cX0_entry 13 = .ok (.iload_n 1, 1) := by decide +kernel
theorem dX0_entry_14 : decode cX0_entry 14 = .ok (.iaload, 1) := by decide +kernel
theorem dX0_entry_15 : decode cX0_entry 15 = .ok (.istore 4, 2) := by decide +kernel
theorem dX0_entry_17 : decode cX0_entry 17 = .ok (.iload 4, 2) := by decide +kernel
theorem dX0_entry_19 : decode cX0_entry 19 = .ok (.iload_n 3, 1) := by decide +kernel
theorem dX0_entry_20 : decode cX0_entry 20 = .ok (.if_icmp .ge 28, 3) := by decide +kernel
theorem dX0_entry_23 : decode cX0_entry 23 = .ok (.aload_n 0, 1) := by decide +kernel
theorem dX0_entry_24 : decode cX0_entry 24 = .ok (.getfield 13, 3) := by decide +kernel
theorem dX0_entry_27 : decode cX0_entry 27 = .ok (.iload 4, 2) := by decide +kernel
theorem dX0_entry_29 : decode cX0_entry 29 = .ok (.iaload, 1) := by decide +kernel
theorem dX0_entry_30 : decode cX0_entry 30 = .ok (.iload_n 2, 1) := by decide +kernel
theorem dX0_entry_31 : decode cX0_entry 31 = .ok (.if_icmp .ne 11, 3) := by decide +kernel
theorem dX0_entry_34 : decode cX0_entry 34 = .ok (.aload_n 0, 1) := by decide +kernel
theorem dX0_entry_35 : decode cX0_entry 35 = .ok (.getfield 16, 3) := by decide +kernel
theorem dX0_entry_38 : decode cX0_entry 38 = .ok (.iload 4, 2) := by decide +kernel
theorem dX0_entry_40 : decode cX0_entry 40 = .ok (.iaload, 1) := by decide +kernel
theorem dX0_entry_41 : decode cX0_entry 41 = .ok (.ireturn, 1) := by decide +kernel
theorem dX0_entry_42 : decode cX0_entry 42 = .ok (.iinc 4 1, 3) := by decide +kernel
theorem dX0_entry_45 : decode cX0_entry 45 = .ok (.goto (-28), 3) := by decide +kernel
theorem dX0_entry_48 : decode cX0_entry 48 = .ok (.iconst 0, 1) := by decide +kernel
theorem dX0_entry_49 : decode cX0_entry 49 = .ok (.ireturn, 1) := by decide +kernel
theorem dX0_rowTimes_0 : decode cX0_rowTimes 0 = .ok (.iconst 0, 1) := by decide +kernel
theorem dX0_rowTimes_1 : decode cX0_rowTimes 1 = .ok (.istore_n 3, 1) := by decide +kernel
theorem dX0_rowTimes_2 : decode cX0_rowTimes 2 = .ok (.aload_n 0, 1) := by decide +kernel
theorem dX0_rowTimes_3 : decode cX0_rowTimes 3 = .ok (.getfield 7, 3) := by decide +kernel
theorem dX0_rowTimes_6 : decode cX0_rowTimes 6 = .ok (.iload_n 1, 1) := by decide +kernel
theorem dX0_rowTimes_7 : decode cX0_rowTimes 7 = .ok (.iconst 1, 1) := by decide +kernel
theorem dX0_rowTimes_8 : decode cX0_rowTimes 8 = .ok (.iadd, 1) := by decide +kernel
theorem dX0_rowTimes_9 : decode cX0_rowTimes 9 = .ok (.iaload, 1) := by decide +kernel
theorem dX0_rowTimes_10 : decode cX0_rowTimes 10 = .ok (.istore 4, 2) := by decide +kernel
theorem dX0_rowTimes_12 : decode cX0_rowTimes 12 = .ok (.aload_n 0, 1) := by decide +kernel
theorem dX0_rowTimes_13 : decode cX0_rowTimes 13 = .ok (.getfield 7, 3) := by decide +kernel
theorem dX0_rowTimes_16 : decode cX0_rowTimes 16 = .ok (.iload_n 1, 1) := by decide +kernel
theorem dX0_rowTimes_17 : decode cX0_rowTimes 17 = .ok (.iaload, 1) := by decide +kernel
theorem dX0_rowTimes_18 : decode cX0_rowTimes 18 = .ok (.istore 5, 2) := by decide +kernel
theorem dX0_rowTimes_20 : decode cX0_rowTimes 20 = .ok (.iload 5, 2) := by decide +kernel
theorem dX0_rowTimes_22 : decode cX0_rowTimes 22 = .ok (.iload 4, 2) := by decide +kernel
theorem dX0_rowTimes_24 : decode cX0_rowTimes 24 = .ok (.if_icmp .ge 29, 3) := by decide +kernel
theorem dX0_rowTimes_27 : decode cX0_rowTimes 27 = .ok (.iload_n 3, 1) := by decide +kernel
theorem dX0_rowTimes_28 : decode cX0_rowTimes 28 = .ok (.aload_n 0, 1) := by decide +kernel
theorem dX0_rowTimes_29 : decode cX0_rowTimes 29 = .ok (.getfield 16, 3) := by decide +kernel
theorem dX0_rowTimes_32 : decode cX0_rowTimes 32 = .ok (.iload 5, 2) := by decide +kernel
theorem dX0_rowTimes_34 : decode cX0_rowTimes 34 = .ok (.iaload, 1) := by decide +kernel
theorem dX0_rowTimes_35 : decode cX0_rowTimes 35 = .ok (.aload_n 2, 1) := by decide +kernel
theorem dX0_rowTimes_36 : decode cX0_rowTimes 36 = .ok (.aload_n 0, 1) := by decide +kernel
theorem dX0_rowTimes_37 : decode cX0_rowTimes 37 = .ok (.getfield 13, 3) := by decide +kernel
theorem dX0_rowTimes_40 : decode cX0_rowTimes 40 = .ok (.iload 5, 2) := by decide +kernel
theorem dX0_rowTimes_42 : decode cX0_rowTimes 42 = .ok (.iaload, 1) := by decide +kernel
theorem dX0_rowTimes_43 : decode cX0_rowTimes 43 = .ok (.iaload, 1) := by decide +kernel
theorem dX0_rowTimes_44 : decode cX0_rowTimes 44 = .ok (.imul, 1) := by decide +kernel
theorem dX0_rowTimes_45 : decode cX0_rowTimes 45 = .ok (.iadd, 1) := by decide +kernel
theorem dX0_rowTimes_46 : decode cX0_rowTimes 46 = .ok (.istore_n 3, 1) := by decide +kernel
theorem dX0_rowTimes_47 : decode cX0_rowTimes 47 = .ok (.iinc 5 1, 3) := by decide +kernel
theorem dX0_rowTimes_50 : decode cX0_rowTimes 50 = .ok (.goto (-30), 3) := by decide +kernel
theorem dX0_rowTimes_53 : decode cX0_rowTimes 53 = .ok (.iload_n 3, 1) := by decide +kernel
theorem dX0_rowTimes_54 : decode cX0_rowTimes 54 = .ok (.ireturn, 1) := by decide +kernel
theorem dX0_addRowTo_0 : decode cX0_addRowTo 0 = .ok (.aload_n 0, 1) := by decide +kernel
theorem dX0_addRowTo_1 : decode cX0_addRowTo 1 = .ok (.getfield 7, 3) := by decide +kernel
theorem dX0_addRowTo_4 : decode cX0_addRowTo 4 = .ok (.iload_n 2, 1) := by decide +kernel
theorem dX0_addRowTo_5 : decode cX0_addRowTo 5 = .ok (.iconst 1, 1) := by decide +kernel
theorem dX0_addRowTo_6 : decode cX0_addRowTo 6 = .ok (.iadd, 1) := by decide +kernel
theorem dX0_addRowTo_7 : decode cX0_addRowTo 7 = .ok (.iaload, 1) := by decide +kernel
theorem dX0_addRowTo_8 : decode cX0_addRowTo 8 = .ok (.istore 4, 2) := by decide +kernel
theorem dX0_addRowTo_10 : decode cX0_addRowTo 10 = .ok (.aload_n 0, 1) := by decide +kernel
theorem dX0_addRowTo_11 : decode cX0_addRowTo 11 = .ok (.getfield 7, 3) := by decide +kernel
theorem dX0_addRowTo_14 : decode cX0_addRowTo 14 = .ok (.iload_n 2, 1) := by decide +kernel
theorem dX0_addRowTo_15 : decode cX0_addRowTo 15 = .ok (.iaload, 1) := by decide +kernel
theorem dX0_addRowTo_16 : decode cX0_addRowTo 16 = .ok (.istore 5, 2) := by decide +kernel
theorem dX0_addRowTo_18 : decode cX0_addRowTo 18 = .ok (.iload 5, 2) := by decide +kernel
theorem dX0_addRowTo_20 : decode cX0_addRowTo 20 = .ok (.iload 4, 2) := by decide +kernel
theorem dX0_addRowTo_22 : decode cX0_addRowTo 22 = .ok (.if_icmp .ge 30, 3) := by decide +kernel
theorem dX0_addRowTo_25 : decode cX0_addRowTo 25 = .ok (.aload_n 1, 1) := by decide +kernel
theorem dX0_addRowTo_26 : decode cX0_addRowTo 26 = .ok (.aload_n 0, 1) := by decide +kernel
theorem dX0_addRowTo_27 : decode cX0_addRowTo 27 = .ok (.getfield 13, 3) := by decide +kernel
theorem dX0_addRowTo_30 : decode cX0_addRowTo 30 = .ok (.iload 5, 2) := by decide +kernel
theorem dX0_addRowTo_32 : decode cX0_addRowTo 32 = .ok (.iaload, 1) := by decide +kernel
theorem dX0_addRowTo_33 : decode cX0_addRowTo 33 = .ok (.dup2, 1) := by decide +kernel
theorem dX0_addRowTo_34 : decode cX0_addRowTo 34 = .ok (.iaload, 1) := by decide +kernel
theorem dX0_addRowTo_35 : decode cX0_addRowTo 35 = .ok (.iload_n 3, 1) := by decide +kernel
theorem dX0_addRowTo_36 : decode cX0_addRowTo 36 = .ok (.aload_n 0, 1) := by decide +kernel
theorem dX0_addRowTo_37 : decode cX0_addRowTo 37 = .ok (.getfield 16, 3) := by decide +kernel
theorem dX0_addRowTo_40 : decode cX0_addRowTo 40 = .ok (.iload 5, 2) := by decide +kernel
theorem dX0_addRowTo_42 : decode cX0_addRowTo 42 = .ok (.iaload, 1) := by decide +kernel
theorem dX0_addRowTo_43 : decode cX0_addRowTo 43 = .ok (.imul, 1) := by decide +kernel
theorem dX0_addRowTo_44 : decode cX0_addRowTo 44 = .ok (.iadd, 1) := by decide +kernel
theorem dX0_addRowTo_45 : decode cX0_addRowTo 45 = .ok (.iastore, 1) := by decide +kernel
theorem dX0_addRowTo_46 : decode cX0_addRowTo 46 = .ok (.iinc 5 1, 3) := by decide +kernel
theorem dX0_addRowTo_49 : decode cX0_addRowTo 49 = .ok (.goto (-31), 3) := by decide +kernel
theorem dX0_addRowTo_52 : decode cX0_addRowTo 52 = .ok (.return_, 1) := by decide +kernel
set_option maxRecDepth 20000 in
theorem ggX0_addSquaredRowTo_X0_addRowTo : GoodIn wsX0_addSquaredRowTo wsX0_addRowTo := goodIn_r _ [8, 1, 2, 3, 9, 10, 11] (by decide +kernel) (by decide +kernel)
set_option maxRecDepth 20000 in
theorem gX0_addSquaredRowTo_X0_addRowTo : GoodIn wsX0_addSquaredRowTo (wsV RX0 19 RX0 yX0_addRowTo wsX0_addRowTo) := goodIn_app (goodIn_of _ (by decide +kernel)) ggX0_addSquaredRowTo_X0_addRowTo
theorem dX0_addSquaredRowTo_0 : decode cX0_addSquaredRowTo 0 = .ok (.aload_n 0, 1) := by decide +kernel
theorem dX0_addSquaredRowTo_1 : decode cX0_addSquaredRowTo 1 = .ok (.getfield 7, 3) := by decide +kernel
theorem dX0_addSquaredRowTo_4 : decode cX0_addSquaredRowTo 4 = .ok (.iload_n 2, 1) := by decide +kernel
theorem dX0_addSquaredRowTo_5 : decode cX0_addSquaredRowTo 5 = .ok (.iconst 1, 1) := by decide +kernel
theorem dX0_addSquaredRowTo_6 : decode cX0_addSquaredRowTo 6 = .ok (.iadd, 1) := by decide +kernel
theorem dX0_addSquaredRowTo_7 : decode cX0_addSquaredRowTo 7 = .ok (.iaload, 1) := by decide +kernel
theorem dX0_addSquaredRowTo_8 : decode cX0_addSquaredRowTo 8 = .ok (.istore_n 3, 1) := by decide +kernel
theorem dX0_addSquaredRowTo_9 : decode cX0_addSquaredRowTo 9 = .ok (.aload_n 0, 1) := by decide +kernel
theorem dX0_addSquaredRowTo_10 : decode cX0_addSquaredRowTo 10 = .ok (.getfield 7, 3) := by decide +kernel
theorem dX0_addSquaredRowTo_13 : decode cX0_addSquaredRowTo 13 = .ok (.iload_n 2, 1) := by decide +kernel
theorem dX0_addSquaredRowTo_14 : decode cX0_addSquaredRowTo 14 = .ok (.iaload, 1) := by decide +kernel
theorem dX0_addSquaredRowTo_15 : decode cX0_addSquaredRowTo 15 = .ok (.istore 4, 2) := by decide +kernel
theorem dX0_addSquaredRowTo_17 : decode cX0_addSquaredRowTo 17 = .ok (.iload 4, 2) := by decide +kernel
theorem dX0_addSquaredRowTo_19 : decode cX0_addSquaredRowTo 19 = .ok (.iload_n 3, 1) := by decide +kernel
theorem dX0_addSquaredRowTo_20 : decode cX0_addSquaredRowTo 20 = .ok (.if_icmp .ge 28, 3) := by decide +kernel
theorem dX0_addSquaredRowTo_23 : decode cX0_addSquaredRowTo 23 = .ok (.aload_n 0, 1) := by decide +kernel
theorem dX0_addSquaredRowTo_24 : decode cX0_addSquaredRowTo 24 = .ok (.aload_n 1, 1) := by decide +kernel
theorem dX0_addSquaredRowTo_25 : decode cX0_addSquaredRowTo 25 = .ok (.aload_n 0, 1) := by decide +kernel
theorem dX0_addSquaredRowTo_26 : decode cX0_addSquaredRowTo 26 = .ok (.getfield 13, 3) := by decide +kernel
theorem dX0_addSquaredRowTo_29 : decode cX0_addSquaredRowTo 29 = .ok (.iload 4, 2) := by decide +kernel
theorem dX0_addSquaredRowTo_31 : decode cX0_addSquaredRowTo 31 = .ok (.iaload, 1) := by decide +kernel
theorem dX0_addSquaredRowTo_32 : decode cX0_addSquaredRowTo 32 = .ok (.aload_n 0, 1) := by decide +kernel
theorem dX0_addSquaredRowTo_33 : decode cX0_addSquaredRowTo 33 = .ok (.getfield 16, 3) := by decide +kernel
theorem dX0_addSquaredRowTo_36 : decode cX0_addSquaredRowTo 36 = .ok (.iload 4, 2) := by decide +kernel
theorem dX0_addSquaredRowTo_38 : decode cX0_addSquaredRowTo 38 = .ok (.iaload, 1) := by decide +kernel
theorem dX0_addSquaredRowTo_39 : decode cX0_addSquaredRowTo 39 = .ok (.invokevirtual 19, 3) := by decide +kernel
theorem dX0_addSquaredRowTo_42 : decode cX0_addSquaredRowTo 42 = .ok (.iinc 4 1, 3) := by decide +kernel
theorem dX0_addSquaredRowTo_45 : decode cX0_addSquaredRowTo 45 = .ok (.goto (-28), 3) := by decide +kernel
theorem dX0_addSquaredRowTo_48 : decode cX0_addSquaredRowTo 48 = .ok (.return_, 1) := by decide +kernel
theorem dX0_putRow_0 : decode cX0_putRow 0 = .ok (.aload_n 0, 1) := by decide +kernel
theorem dX0_putRow_1 : decode cX0_putRow 1 = .ok (.getfield 7, 3) := by decide +kernel
theorem dX0_putRow_4 : decode cX0_putRow 4 = .ok (.iload_n 1, 1) := by decide +kernel
theorem dX0_putRow_5 : decode cX0_putRow 5 = .ok (.iaload, 1) := by decide +kernel
theorem dX0_putRow_6 : decode cX0_putRow 6 = .ok (.istore_n 3, 1) := by decide +kernel
theorem dX0_putRow_7 : decode cX0_putRow 7 = .ok (.iconst 0, 1) := by decide +kernel
theorem dX0_putRow_8 : decode cX0_putRow 8 = .ok (.istore 4, 2) := by decide +kernel
theorem dX0_putRow_10 : decode cX0_putRow 10 = .ok (.iload 4, 2) := by decide +kernel
theorem dX0_putRow_12 : decode cX0_putRow 12 = .ok (.aload_n 2, 1) := by decide +kernel
theorem dX0_putRow_13 : decode cX0_putRow 13 = .ok (.arraylength, 1) := by decide +kernel
theorem dX0_putRow_14 : decode cX0_putRow 14 = .ok (.if_icmp .ge 48, 3) := by decide +kernel
theorem dX0_putRow_17 : decode cX0_putRow 17 = .ok (.aload_n 2, 1) := by decide +kernel
theorem dX0_putRow_18 : decode cX0_putRow 18 = .ok (.iload 4, 2) := by decide +kernel
theorem dX0_putRow_20 : decode cX0_putRow 20 = .ok (.iaload, 1) := by decide +kernel
theorem dX0_putRow_21 : decode cX0_putRow 21 = .ok (.ifCond .eq 35, 3) := by decide +kernel
theorem dX0_putRow_24 : decode cX0_putRow 24 = .ok (.iload_n 3, 1) := by decide +kernel
theorem dX0_putRow_25 : decode cX0_putRow 25 = .ok (.aload_n 0, 1) := by decide +kernel
theorem dX0_putRow_26 : decode cX0_putRow 26 = .ok (.getfield 13, 3) := by decide +kernel
theorem dX0_putRow_29 : decode cX0_putRow 29 = .ok (.arraylength, 1) := by decide +kernel
theorem dX0_putRow_30 : decode cX0_putRow 30 = .ok (.if_icmp .lt 5, 3) := by decide +kernel
theorem dX0_putRow_33 : decode cX0_putRow 33 = .ok (.iconst 0, 1) := by decide +kernel
theorem dX0_putRow_34 : decode cX0_putRow 34 = .ok (.ireturn, 1) := by decide +kernel
theorem dX0_putRow_35 : decode cX0_putRow 35 = .ok (.aload_n 0, 1) := by decide +kernel
theorem dX0_putRow_36 : decode cX0_putRow 36 = .ok (.getfield 13, 3) := by decide +kernel
theorem dX0_putRow_39 : decode cX0_putRow 39 = .ok (.iload_n 3, 1) := by decide +kernel
theorem dX0_putRow_40 : decode cX0_putRow 40 = .ok (.iload 4, 2) := by decide +kernel
theorem dX0_putRow_42 : decode cX0_putRow 42 = .ok (.iastore, 1) := by decide +kernel
theorem dX0_putRow_43 : decode cX0_putRow 43 = .ok (.aload_n 0, 1) := by decide +kernel
theorem dX0_putRow_44 : decode cX0_putRow 44 = .ok (.getfield 16, 3) := by decide +kernel
theorem dX0_putRow_47 : decode cX0_putRow 47 = .ok (.iload_n 3, 1) := by decide +kernel
theorem dX0_putRow_48 : decode cX0_putRow 48 = .ok (.aload_n 2, 1) := by decide +kernel
theorem dX0_putRow_49 : decode cX0_putRow 49 = .ok (.iload 4, 2) := by decide +kernel
theorem dX0_putRow_51 : decode cX0_putRow 51 = .ok (.iaload, 1) := by decide +kernel
theorem dX0_putRow_52 : decode cX0_putRow 52 = .ok (.iastore, 1) := by decide +kernel
theorem dX0_putRow_53 : decode cX0_putRow 53 = .ok (.iinc 3 1, 3) := by decide +kernel
theorem dX0_putRow_56 : decode cX0_putRow 56 = .ok (.iinc 4 1, 3) := by decide +kernel
theorem dX0_putRow_59 : decode cX0_putRow 59 = .ok (.goto (-49), 3) := by decide +kernel
theorem dX0_putRow_62 : decode cX0_putRow 62 = .ok (.aload_n 0, 1) := by decide +kernel
theorem dX0_putRow_63 : decode cX0_putRow 63 = .ok (.getfield 7, 3) := by decide +kernel
theorem dX0_putRow_66 : decode cX0_putRow 66 = .ok (.iload_n 1, 1) := by decide +kernel
theorem dX0_putRow_67 : decode cX0_putRow 67 = .ok (.iconst 1, 1) := by decide +kernel
theorem dX0_putRow_68 : decode cX0_putRow 68 = .ok (.iadd, 1) := by decide +kernel
theorem dX0_putRow_69 : decode cX0_putRow 69 = .ok (.iload_n 3, 1) := by decide +kernel
theorem dX0_putRow_70 : decode cX0_putRow 70 = .ok (.iastore, 1) := by decide +kernel
theorem dX0_putRow_71 : decode cX0_putRow 71 = .ok (.iconst 1, 1) := by decide +kernel
theorem dX0_putRow_72 : decode cX0_putRow 72 = .ok (.ireturn, 1) := by decide +kernel
set_option maxRecDepth 20000 in
theorem ggX1_init_X1_nearest : GoodIn wsX1_init wsX1_nearest := goodIn_r _ [27, 28, 29, 9, 30, 7, 8, 10] (by decide +kernel) (by decide +kernel)
set_option maxRecDepth 20000 in
theorem gX1_init_X1_nearest : GoodIn wsX1_init (va_wsS RX1 9 yX1_nearest wsX1_nearest) := goodIn_app (goodIn_of _ (by decide +kernel)) ggX1_init_X1_nearest
set_option maxRecDepth 20000 in
theorem ggX1_init_X0_init : GoodIn wsX1_init wsX0_init := goodIn_r _ [33, 34, 2, 3, 16, 35, 36, 37, 50, 51, 52] (by decide +kernel) (by decide +kernel)
set_option maxRecDepth 20000 in
theorem gX1_init_X0_init : GoodIn wsX1_init (wsX0_init) := ggX1_init_X0_init
theorem dX1_init_0 : decode cX1_init 0 = .ok (.aload_n 0, 1) := by decide +kernel
theorem dX1_init_1 : decode cX1_init 1 = .ok (.invokespecial 1, 3) := by decide +kernel
theorem dX1_init_4 : decode cX1_init 4 = .ok (.aload_n 0, 1) := by decide +kernel
theorem dX1_init_5 : decode cX1_init 5 = .ok (.iload_n 1, 1) := by decide +kernel
theorem dX1_init_6 : decode cX1_init 6 = .ok (.bipush 60, 2) := by decide +kernel
theorem dX1_init_8 : decode cX1_init 8 = .ok (.invokestatic 9, 3) := by decide +kernel
theorem dX1_init_11 : decode cX1_init 11 = .ok (.putfield 13, 3) := by decide +kernel
theorem dX1_init_14 : decode cX1_init 14 = .ok (.aload_n 0, 1) := by decide +kernel
theorem dX1_init_15 : decode cX1_init 15 = .ok (.iload_n 2, 1) := by decide +kernel
theorem dX1_init_16 : decode cX1_init 16 = .ok (.bipush 60, 2) := by decide +kernel
theorem dX1_init_18 : decode cX1_init 18 = .ok (.invokestatic 9, 3) := by decide +kernel
theorem dX1_init_21 : decode cX1_init 21 = .ok (.putfield 17, 3) := by decide +kernel
theorem dX1_init_24 : decode cX1_init 24 = .ok (.aload_n 0, 1) := by decide +kernel
theorem dX1_init_25 : decode cX1_init 25 = .ok (.iload_n 3, 1) := by decide +kernel
theorem dX1_init_26 : decode cX1_init 26 = .ok (.sipush 1000, 3) := by decide +kernel
theorem dX1_init_29 : decode cX1_init 29 = .ok (.invokestatic 9, 3) := by decide +kernel
theorem dX1_init_32 : decode cX1_init 32 = .ok (.putfield 20, 3) := by decide +kernel
theorem dX1_init_35 : decode cX1_init 35 = .ok (.aload_n 0, 1) := by decide +kernel
theorem dX1_init_36 : decode cX1_init 36 = .ok (.getfield 13, 3) := by decide +kernel
theorem dX1_init_39 : decode cX1_init 39 = .ok (.aload_n 0, 1) := by decide +kernel
theorem dX1_init_40 : decode cX1_init 40 = .ok (.getfield 17, 3) := by decide +kernel
theorem dX1_init_43 : decode cX1_init 43 = .ok (.invokestatic 23, 3) := by decide +kernel
theorem dX1_init_46 : decode cX1_init 46 = .ok (.istore 4, 2) := by decide +kernel
theorem dX1_init_48 : decode cX1_init 48 = .ok (.aload_n 0, 1) := by decide +kernel
theorem dX1_init_49 : decode cX1_init 49 = .ok (.new 28, 3) := by decide +kernel
theorem dX1_init_52 : decode cX1_init 52 = .ok (.dup, 1) := by decide +kernel
theorem dX1_init_53 : decode cX1_init 53 = .ok (.iload 4, 2) := by decide +kernel
theorem dX1_init_55 : decode cX1_init 55 = .ok (.aload_n 0, 1) := by decide +kernel
theorem dX1_init_56 : decode cX1_init 56 = .ok (.getfield 20, 3) := by decide +kernel
theorem dX1_init_59 : decode cX1_init 59 = .ok (.invokespecial 30, 3) := by decide +kernel
theorem dX1_init_62 : decode cX1_init 62 = .ok (.putfield 33, 3) := by decide +kernel
theorem dX1_init_65 : decode cX1_init 65 = .ok (.aload_n 0, 1) := by decide +kernel
theorem dX1_init_66 : decode cX1_init 66 = .ok (.new 28, 3) := by decide +kernel
theorem dX1_init_69 : decode cX1_init 69 = .ok (.dup, 1) := by decide +kernel
theorem dX1_init_70 : decode cX1_init 70 = .ok (.iload 4, 2) := by decide +kernel
theorem dX1_init_72 : decode cX1_init 72 = .ok (.aload_n 0, 1) := by decide +kernel
theorem dX1_init_73 : decode cX1_init 73 = .ok (.getfield 20, 3) := by decide +kernel
theorem dX1_init_76 : decode cX1_init 76 = .ok (.invokespecial 30, 3) := by decide +kernel
theorem dX1_init_79 : decode cX1_init 79 = .ok (.putfield 37, 3) := by decide +kernel
theorem dX1_init_82 : decode cX1_init 82 = .ok (.aload_n 0, 1) := by decide +kernel
theorem dX1_init_83 : decode cX1_init 83 = .ok (.aload_n 0, 1) := by decide +kernel
theorem dX1_init_84 : decode cX1_init 84 = .ok (.getfield 20, 3) := by decide +kernel
theorem dX1_init_87 : decode cX1_init 87 = .ok (.newarray .int, 2) := by decide +kernel
theorem dX1_init_89 : decode cX1_init 89 = .ok (.putfield 40, 3) := by decide +kernel
theorem dX1_init_92 : decode cX1_init 92 = .ok (.aload_n 0, 1) := by decide +kernel
theorem dX1_init_93 : decode cX1_init 93 = .ok (.aload_n 0, 1) := by decide +kernel
theorem dX1_init_94 : decode cX1_init 94 = .ok (.getfield 20, 3) := by decide +kernel
theorem dX1_init_97 : decode cX1_init 97 = .ok (.newarray .int, 2) := by decide +kernel
theorem dX1_init_99 : decode cX1_init 99 = .ok (.putfield 44, 3) := by decide +kernel
theorem dX1_init_102 : decode cX1_init 102 = .ok (.aload_n 0, 1) := by decide +kernel
theorem dX1_init_103 : decode cX1_init 103 = .ok (.aload_n 0, 1) := by decide +kernel
theorem dX1_init_104 : decode cX1_init 104 = .ok (.getfield 20, 3) := by decide +kernel
theorem dX1_init_107 : decode cX1_init 107 = .ok (.newarray .int, 2) := by decide +kernel
theorem dX1_init_109 : decode cX1_init 109 = .ok (.putfield 47, 3) := by decide +kernel
theorem dX1_init_112 : decode cX1_init 112 = .ok (.aload_n 0, 1) := by decide +kernel
theorem dX1_init_113 : decode cX1_init 113 = .ok (.iconst 0, 1) := by decide +kernel
theorem dX1_init_114 : decode cX1_init 114 = .ok (.putfield 50, 3) := by decide +kernel
theorem dX1_init_117 : decode cX1_init 117 = .ok (.aload_n 0, 1) := by decide +kernel
theorem dX1_init_118 : decode cX1_init 118 = .ok (.iload 4, 2) := by decide +kernel
theorem dX1_init_120 : decode cX1_init 120 = .ok (.newarray .int, 2) := by decide +kernel
theorem dX1_init_122 : decode cX1_init 122 = .ok (.putfield 53, 3) := by decide +kernel
theorem dX1_init_125 : decode cX1_init 125 = .ok (.aload_n 0, 1) := by decide +kernel
theorem dX1_init_126 : decode cX1_init 126 = .ok (.iload 4, 2) := by decide +kernel
theorem dX1_init_128 : decode cX1_init 128 = .ok (.newarray .int, 2) := by decide +kernel
theorem dX1_init_130 : decode cX1_init 130 = .ok (.putfield 56, 3) := by decide +kernel
theorem dX1_init_133 : decode cX1_init 133 = .ok (.aload_n 0, 1) := by decide +kernel
theorem dX1_init_134 : decode cX1_init 134 = .ok (.iload 4, 2) := by decide +kernel
theorem dX1_init_136 : decode cX1_init 136 = .ok (.newarray .int, 2) := by decide +kernel
theorem dX1_init_138 : decode cX1_init 138 = .ok (.putfield 59, 3) := by decide +kernel
theorem dX1_init_141 : decode cX1_init 141 = .ok (.return_, 1) := by decide +kernel
set_option maxRecDepth 20000 in
theorem ggX1_add_X1_hasPlace : GoodIn wsX1_add wsX1_hasPlace := goodIn_r _ [10, 11, 12, 13, 14, 9, 15, 16, 17, 18, 19, 20, 21, 22, 23, 24, 25, 26, 27] (by decide +kernel) (by decide +kernel)
set_option maxRecDepth 20000 in
theorem gX1_add_X1_hasPlace : GoodIn wsX1_add (wsV RX1 62 RX1 yX1_hasPlace wsX1_hasPlace) := goodIn_app (goodIn_of _ (by decide +kernel)) ggX1_add_X1_hasPlace
theorem dX1_add_0 : decode cX1_add 0 = .ok (.aload_n 0, 1) := by decide +kernel
theorem dX1_add_1 : decode cX1_add 1 = .ok (.iload_n 1, 1) := by decide +kernel
theorem dX1_add_2 : decode cX1_add 2 = .ok (.iload_n 2, 1) := by decide +kernel
theorem dX1_add_3 : decode cX1_add 3 = .ok (.invokevirtual 62, 3) := by decide +kernel
theorem dX1_add_6 : decode cX1_add 6 = .ok (.ifCond .eq 14, 3) := by decide +kernel
theorem dX1_add_9 : decode cX1_add 9 = .ok (.aload_n 0, 1) := by decide +kernel
theorem dX1_add_10 : decode cX1_add 10 = .ok (.getfield 50, 3) := by decide +kernel
theorem dX1_add_13 : decode cX1_add 13 = .ok (.aload_n 0, 1) := by decide +kernel
theorem dX1_add_14 : decode cX1_add 14 = .ok (.getfield 20, 3) := by decide +kernel
theorem dX1_add_17 : decode cX1_add 17 = .ok (.if_icmp .lt 5, 3) := by decide +kernel
theorem dX1_add_20 : decode cX1_add 20 = .ok (.iconst 0, 1) := by decide +kernel
theorem dX1_add_21 : decode cX1_add 21 = .ok (.ireturn, 1) := by decide +kernel
theorem dX1_add_22 : decode cX1_add 22 = .ok (.aload_n 0, 1) := by decide +kernel
theorem dX1_add_23 : decode cX1_add 23 = .ok (.getfield 40, 3) := by decide +kernel
theorem dX1_add_26 : decode cX1_add 26 = .ok (.aload_n 0, 1) := by decide +kernel
theorem dX1_add_27 : decode cX1_add 27 = .ok (.getfield 50, 3) := by decide +kernel
theorem dX1_add_30 : decode cX1_add 30 = .ok (.iload_n 1, 1) := by decide +kernel
theorem dX1_add_31 : decode cX1_add 31 = .ok (.iastore, 1) := by decide +kernel
theorem dX1_add_32 : decode cX1_add 32 = .ok (.aload_n 0, 1) := by decide +kernel
theorem dX1_add_33 : decode cX1_add 33 = .ok (.getfield 44, 3) := by decide +kernel
theorem dX1_add_36 : decode cX1_add 36 = .ok (.aload_n 0, 1) := by decide +kernel
theorem dX1_add_37 : decode cX1_add 37 = .ok (.getfield 50, 3) := by decide +kernel
theorem dX1_add_40 : decode cX1_add 40 = .ok (.iload_n 2, 1) := by decide +kernel
theorem dX1_add_41 : decode cX1_add 41 = .ok (.iastore, 1) := by decide +kernel
theorem dX1_add_42 : decode cX1_add 42 = .ok (.aload_n 0, 1) := by decide +kernel
theorem dX1_add_43 : decode cX1_add 43 = .ok (.getfield 47, 3) := by decide +kernel
theorem dX1_add_46 : decode cX1_add 46 = .ok (.aload_n 0, 1) := by decide +kernel
theorem dX1_add_47 : decode cX1_add 47 = .ok (.getfield 50, 3) := by decide +kernel
theorem dX1_add_50 : decode cX1_add 50 = .ok (.iload_n 3, 1) := by decide +kernel
theorem dX1_add_51 : decode cX1_add 51 = .ok (.iastore, 1) := by decide +kernel
theorem dX1_add_52 : decode cX1_add 52 = .ok (.aload_n 0, 1) := by decide +kernel
theorem dX1_add_53 : decode cX1_add 53 = .ok (.dup, 1) := by decide +kernel
theorem dX1_add_54 : decode cX1_add 54 = .ok (.getfield 50, 3) := by decide +kernel
theorem dX1_add_57 : decode cX1_add 57 = .ok (.iconst 1, 1) := by decide +kernel
theorem dX1_add_58 : decode cX1_add 58 = .ok (.iadd, 1) := by decide +kernel
theorem dX1_add_59 : decode cX1_add 59 = .ok (.putfield 50, 3) := by decide +kernel
theorem dX1_add_62 : decode cX1_add 62 = .ok (.iconst 1, 1) := by decide +kernel
theorem dX1_add_63 : decode cX1_add 63 = .ok (.ireturn, 1) := by decide +kernel
set_option maxRecDepth 20000 in
theorem ggX1_build_J7_fill_53178 : GoodIn wsX1_build wsJ7_fill_53178 := goodIn_r _ [9] (by decide +kernel) (by decide +kernel)
set_option maxRecDepth 20000 in
theorem gX1_build_J7_fill_53178 : GoodIn wsX1_build (va_wsS RX1 66 yJ7_fill_53178 wsJ7_fill_53178) := goodIn_app (goodIn_of _ (by decide +kernel)) ggX1_build_J7_fill_53178
set_option maxRecDepth 20000 in
theorem ggX1_build_X0_addRowTo : GoodIn wsX1_build wsX0_addRowTo := goodIn_r _ [14, 15, 16, 17, 50, 51, 52] (by decide +kernel) (by decide +kernel)
set_option maxRecDepth 20000 in
theorem gX1_build_X0_addRowTo : GoodIn wsX1_build (wsV RX1 72 RX0 yX0_addRowTo wsX0_addRowTo) := goodIn_app (goodIn_of _ (by decide +kernel)) ggX1_build_X0_addRowTo
set_option maxRecDepth 20000 in
theorem ggX1_build_X1_addPendingTo : GoodIn wsX1_build wsX1_addPendingTo := goodIn_r _ [22, 5, 23, 24, 25, 38, 39, 40, 41, 42, 43, 44, 45, 46, 47, 48, 49] (by decide +kernel) (by decide +kernel)
set_option maxRecDepth 20000 in
theorem gX1_build_X1_addPendingTo : GoodIn wsX1_build (wsV RX1 76 RX1 yX1_addPendingTo wsX1_addPendingTo) := goodIn_app (goodIn_of _ (by decide +kernel)) ggX1_build_X1_addPendingTo
set_option maxRecDepth 20000 in
theorem ggX1_build_X0_putRow : GoodIn wsX1_build wsX0_putRow := goodIn_r _ [29, 15, 16, 17, 50, 51, 52] (by decide +kernel) (by decide +kernel)
set_option maxRecDepth 20000 in
theorem gX1_build_X0_putRow : GoodIn wsX1_build (wsV RX1 79 RX0 yX0_putRow wsX0_putRow) := goodIn_app (goodIn_of _ (by decide +kernel)) ggX1_build_X0_putRow
set_option maxRecDepth 20000 in
theorem ggX1_build_X1_swapSupports : GoodIn wsX1_build wsX1_swapSupports := goodIn_r _ [33, 3, 4, 38, 39, 40, 41, 42, 43, 44, 45, 46, 47, 48, 49] (by decide +kernel) (by decide +kernel)
set_option maxRecDepth 20000 in
theorem gX1_build_X1_swapSupports : GoodIn wsX1_build (wsV RX1 83 RX1 yX1_swapSupports wsX1_swapSupports) := goodIn_app (goodIn_of _ (by decide +kernel)) ggX1_build_X1_swapSupports
set_option maxRecDepth 20000 in
theorem ggX1_build_X0_placesAhead : GoodIn wsX1_build wsX0_placesAhead := goodIn_r _ [37, 15, 50, 51, 52] (by decide +kernel) (by decide +kernel)
set_option maxRecDepth 20000 in
theorem gX1_build_X0_placesAhead : GoodIn wsX1_build (wsV RX1 86 RX0 yX0_placesAhead wsX0_placesAhead) := goodIn_app (goodIn_of _ (by decide +kernel)) ggX1_build_X0_placesAhead
theorem dX1_build_0 : decode cX1_build 0 = .ok (.iconst 0, 1) := by decide +kernel
theorem dX1_build_1 : decode cX1_build 1 = .ok (.istore_n 1, 1) := by decide +kernel
theorem dX1_build_2 : decode cX1_build 2 = .ok (.iload_n 1, 1) := by decide +kernel
theorem dX1_build_3 : decode cX1_build 3 = .ok (.aload_n 0, 1) := by decide +kernel
theorem dX1_build_4 : decode cX1_build 4 = .ok (.getfield 13, 3) := by decide +kernel
theorem dX1_build_7 : decode cX1_build 7 = .ok (.if_icmp .ge 56, 3) := by decide +kernel
theorem dX1_build_10 : decode cX1_build 10 = .ok (.aload_n 0, 1) := by decide +kernel
theorem dX1_build_11 : decode cX1_build 11 = .ok (.getfield 59, 3) := by decide +kernel
theorem dX1_build_14 : decode cX1_build 14 = .ok (.iconst 0, 1) := by decide +kernel
theorem dX1_build_15 : decode cX1_build 15 = .ok (.invokestatic 66, 3) := by decide +kernel
theorem dX1_build_18 : decode cX1_build 18 = .ok (.aload_n 0, 1) := by decide +kernel
theorem dX1_build_19 : decode cX1_build 19 = .ok (.getfield 33, 3) := by decide +kernel
theorem dX1_build_22 : decode cX1_build 22 = .ok (.aload_n 0, 1) := by decide +kernel
theorem dX1_build_23 : decode cX1_build 23 = .ok (.getfield 59, 3) := by decide +kernel
theorem dX1_build_26 : decode cX1_build 26 = .ok (.iload_n 1, 1) := by decide +kernel
theorem dX1_build_27 : decode cX1_build 27 = .ok (.iconst 1, 1) := by decide +kernel
theorem dX1_build_28 : decode cX1_build 28 = .ok (.invokevirtual 72, 3) := by decide +kernel
theorem dX1_build_31 : decode cX1_build 31 = .ok (.aload_n 0, 1) := by decide +kernel
theorem dX1_build_32 : decode cX1_build 32 = .ok (.aload_n 0, 1) := by decide +kernel
theorem dX1_build_33 : decode cX1_build 33 = .ok (.getfield 59, 3) := by decide +kernel
theorem dX1_build_36 : decode cX1_build 36 = .ok (.iload_n 1, 1) := by decide +kernel
theorem dX1_build_37 : decode cX1_build 37 = .ok (.invokevirtual 76, 3) := by decide +kernel
theorem dX1_build_40 : decode cX1_build 40 = .ok (.aload_n 0, 1) := by decide +kernel
theorem dX1_build_41 : decode cX1_build 41 = .ok (.getfield 37, 3) := by decide +kernel
theorem dX1_build_44 : decode cX1_build 44 = .ok (.iload_n 1, 1) := by decide +kernel
theorem dX1_build_45 : decode cX1_build 45 = .ok (.aload_n 0, 1) := by decide +kernel
theorem dX1_build_46 : decode cX1_build 46 = .ok (.getfield 59, 3) := by decide +kernel
theorem dX1_build_49 : decode cX1_build 49 = .ok (.invokevirtual 79, 3) := by decide +kernel
theorem dX1_build_52 : decode cX1_build 52 = .ok (.ifCond .ne 5, 3) := by decide +kernel
theorem dX1_build_55 : decode cX1_build 55 = .ok (.iconst (-1), 1) := by decide +kernel
theorem dX1_build_56 : decode cX1_build 56 = .ok (.ireturn, 1) := by decide +kernel
theorem dX1_build_57 : decode cX1_build 57 = .ok (.iinc 1 1, 3) := by decide +kernel
theorem dX1_build_60 : decode cX1_build 60 = .ok (.goto (-58), 3) := by decide +kernel
theorem dX1_build_63 : decode cX1_build 63 = .ok (.aload_n 0, 1) := by decide +kernel
theorem dX1_build_64 : decode cX1_build 64 = .ok (.invokevirtual 83, 3) := by decide +kernel
theorem dX1_build_67 : decode cX1_build 67 = .ok (.aload_n 0, 1) := by decide +kernel
theorem dX1_build_68 : decode cX1_build 68 = .ok (.iconst 0, 1) := by decide +kernel
theorem dX1_build_69 : decode cX1_build 69 = .ok (.putfield 50, 3) := by decide +kernel
theorem dX1_build_72 : decode cX1_build 72 = .ok (.aload_n 0, 1) := by decide +kernel
theorem dX1_build_73 : decode cX1_build 73 = .ok (.getfield 33, 3) := by decide +kernel
theorem dX1_build_76 : decode cX1_build 76 = .ok (.aload_n 0, 1) := by decide +kernel
theorem dX1_build_77 : decode cX1_build 77 = .ok (.getfield 13, 3) := by decide +kernel
theorem dX1_build_80 : decode cX1_build 80 = .ok (.invokevirtual 86, 3) := by decide +kernel
theorem dX1_build_83 : decode cX1_build 83 = .ok (.ireturn, 1) := by decide +kernel
set_option maxRecDepth 20000 in
theorem ggX1_nnz_X0_placesAhead : GoodIn wsX1_nnz wsX0_placesAhead := goodIn_r _ [7, 8, 21, 22, 23] (by decide +kernel) (by decide +kernel)
set_option maxRecDepth 20000 in
theorem gX1_nnz_X0_placesAhead : GoodIn wsX1_nnz (wsV RX1 86 RX0 yX0_placesAhead wsX0_placesAhead) := goodIn_app (goodIn_of _ (by decide +kernel)) ggX1_nnz_X0_placesAhead
theorem dX1_nnz_0 : decode cX1_nnz 0 = .ok (.aload_n 0, 1) := by decide +kernel
theorem dX1_nnz_1 : decode cX1_nnz 1 = .ok (.getfield 33, 3) := by decide +kernel
theorem dX1_nnz_4 : decode cX1_nnz 4 = .ok (.aload_n 0, 1) := by decide +kernel
theorem dX1_nnz_5 : decode cX1_nnz 5 = .ok (.getfield 13, 3) := by decide +kernel
theorem dX1_nnz_8 : decode cX1_nnz 8 = .ok (.invokevirtual 86, 3) := by decide +kernel
theorem dX1_nnz_11 : decode cX1_nnz 11 = .ok (.ireturn, 1) := by decide +kernel
set_option maxRecDepth 20000 in
theorem ggX1_at_X1_hasPlace : GoodIn wsX1_at wsX1_hasPlace := goodIn_r _ [6, 7, 8, 9, 10, 5, 11, 20, 21, 22, 23, 24, 25, 26, 27, 28, 29, 30, 31] (by decide +kernel) (by decide +kernel)
set_option maxRecDepth 20000 in
theorem gX1_at_X1_hasPlace : GoodIn wsX1_at (wsV RX1 62 RX1 yX1_hasPlace wsX1_hasPlace) := goodIn_app (goodIn_of _ (by decide +kernel)) ggX1_at_X1_hasPlace
set_option maxRecDepth 20000 in
theorem ggX1_at_X0_entry : GoodIn wsX1_at wsX0_entry := goodIn_r _ [16, 17, 18, 19, 32, 33, 34] (by decide +kernel) (by decide +kernel)
set_option maxRecDepth 20000 in
theorem gX1_at_X0_entry : GoodIn wsX1_at (wsV RX1 90 RX0 yX0_entry wsX0_entry) := goodIn_app (goodIn_of _ (by decide +kernel)) ggX1_at_X0_entry
theorem dX1_at_0 : decode cX1_at 0 = .ok (.aload_n 0, 1) := by decide +kernel
theorem dX1_at_1 : decode cX1_at 1 = .ok (.iload_n 1, 1) := by decide +kernel
theorem dX1_at_2 : decode cX1_at 2 = .ok (.iload_n 2, 1) := by decide +kernel
theorem dX1_at_3 : decode cX1_at 3 = .ok (.invokevirtual 62, 3) := by decide +kernel
theorem dX1_at_6 : decode cX1_at 6 = .ok (.ifCond .eq 15, 3) := by decide +kernel
theorem dX1_at_9 : decode cX1_at 9 = .ok (.aload_n 0, 1) := by decide +kernel
theorem dX1_at_10 : decode cX1_at 10 = .ok (.getfield 33, 3) := by decide +kernel
theorem dX1_at_13 : decode cX1_at 13 = .ok (.iload_n 1, 1) := by decide +kernel
theorem dX1_at_14 : decode cX1_at 14 = .ok (.iload_n 2, 1) := by decide +kernel
theorem dX1_at_15 : decode cX1_at 15 = .ok (.invokevirtual 90, 3) := by decide +kernel
theorem dX1_at_18 : decode cX1_at 18 = .ok (.goto 4, 3) := by decide +kernel
theorem dX1_at_21 : decode cX1_at 21 = .ok (.iconst 0, 1) := by decide +kernel
theorem dX1_at_22 : decode cX1_at 22 = .ok (.ireturn, 1) := by decide +kernel
set_option maxRecDepth 20000 in
theorem ggX1_rowStart_X0_placesAhead : GoodIn wsX1_rowStart wsX0_placesAhead := goodIn_r _ [7, 8, 21, 22, 23] (by decide +kernel) (by decide +kernel)
set_option maxRecDepth 20000 in
theorem gX1_rowStart_X0_placesAhead : GoodIn wsX1_rowStart (wsV RX1 86 RX0 yX0_placesAhead wsX0_placesAhead) := goodIn_app (goodIn_of _ (by decide +kernel)) ggX1_rowStart_X0_placesAhead
theorem dX1_rowStart_0 : decode cX1_rowStart 0 = .ok (.iload_n 1, 1) := by decide +kernel
theorem dX1_rowStart_1 : decode cX1_rowStart 1 = .ok (.ifCond .lt 22, 3) := by decide +kernel
theorem dX1_rowStart_4 : decode cX1_rowStart 4 = .ok (.iload_n 1, 1) := by decide +kernel
theorem dX1_rowStart_5 : decode cX1_rowStart 5 = .ok (.aload_n 0, 1) := by decide +kernel
theorem dX1_rowStart_6 : decode cX1_rowStart 6 = .ok (.getfield 13, 3) := by decide +kernel
theorem dX1_rowStart_9 : decode cX1_rowStart 9 = .ok (.if_icmp .gt 14, 3) := by decide +kernel
theorem dX1_rowStart_12 : decode cX1_rowStart 12 = .ok (.aload_n 0, 1) := by decide +kernel
theorem dX1_rowStart_13 : decode cX1_rowStart 13 = .ok (.getfield 33, 3) := by decide +kernel
theorem dX1_rowStart_16 : decode cX1_rowStart 16 = .ok (.iload_n 1, 1) := by decide +kernel
theorem dX1_rowStart_17 : decode cX1_rowStart 17 = .ok (.invokevirtual 86, 3) := by decide +kernel
theorem dX1_rowStart_20 : decode cX1_rowStart 20 = .ok (.goto 4, 3) := by decide +kernel
theorem dX1_rowStart_23 : decode cX1_rowStart 23 = .ok (.iconst (-1), 1) := by decide +kernel
theorem dX1_rowStart_24 : decode cX1_rowStart 24 = .ok (.ireturn, 1) := by decide +kernel
set_option maxRecDepth 20000 in
theorem ggX1_colAt_X0_placesAhead : GoodIn wsX1_colAt wsX0_placesAhead := goodIn_r _ [7, 8, 26, 27, 28] (by decide +kernel) (by decide +kernel)
set_option maxRecDepth 20000 in
theorem gX1_colAt_X0_placesAhead : GoodIn wsX1_colAt (wsV RX1 86 RX0 yX0_placesAhead wsX0_placesAhead) := goodIn_app (goodIn_of _ (by decide +kernel)) ggX1_colAt_X0_placesAhead
set_option maxRecDepth 20000 in
theorem ggX1_colAt_X0_column : GoodIn wsX1_colAt wsX0_column := goodIn_r _ [12, 13, 26, 27, 28] (by decide +kernel) (by decide +kernel)
set_option maxRecDepth 20000 in
theorem gX1_colAt_X0_column : GoodIn wsX1_colAt (wsV RX1 93 RX0 yX0_column wsX0_column) := goodIn_app (goodIn_of _ (by decide +kernel)) ggX1_colAt_X0_column
theorem dX1_colAt_0 : decode cX1_colAt 0 = .ok (.iload_n 1, 1) := by decide +kernel
theorem dX1_colAt_1 : decode cX1_colAt 1 = .ok (.ifCond .lt 29, 3) := by decide +kernel
theorem dX1_colAt_4 : decode cX1_colAt 4 = .ok (.iload_n 1, 1) := by decide +kernel
theorem dX1_colAt_5 : decode cX1_colAt 5 = .ok (.aload_n 0, 1) := by decide +kernel
theorem dX1_colAt_6 : decode cX1_colAt 6 = .ok (.getfield 33, 3) := by decide +kernel
theorem dX1_colAt_9 : decode cX1_colAt 9 = .ok (.aload_n 0, 1) := by decide +kernel
theorem dX1_colAt_10 : decode cX1_colAt 10 = .ok (.getfield 13, 3) := by decide +kernel
theorem dX1_colAt_13 : decode cX1_colAt 13 = .ok (.invokevirtual 86, 3) := by decide +kernel
theorem dX1_colAt_16 : decode cX1_colAt 16 = .ok (.if_icmp .ge 14, 3) := by decide +kernel
theorem dX1_colAt_19 : decode cX1_colAt 19 = .ok (.aload_n 0, 1) := by decide +kernel
theorem dX1_colAt_20 : decode cX1_colAt 20 = .ok (.getfield 33, 3) := by decide +kernel
theorem dX1_colAt_23 : decode cX1_colAt 23 = .ok (.iload_n 1, 1) := by decide +kernel
theorem dX1_colAt_24 : decode cX1_colAt 24 = .ok (.invokevirtual 93, 3) := by decide +kernel
theorem dX1_colAt_27 : decode cX1_colAt 27 = .ok (.goto 4, 3) := by decide +kernel
theorem dX1_colAt_30 : decode cX1_colAt 30 = .ok (.iconst (-1), 1) := by decide +kernel
theorem dX1_colAt_31 : decode cX1_colAt 31 = .ok (.ireturn, 1) := by decide +kernel
set_option maxRecDepth 20000 in
theorem ggX1_setX_X1_isWithin : GoodIn wsX1_setX wsX1_isWithin := goodIn_r _ [6] (by decide +kernel) (by decide +kernel)
set_option maxRecDepth 20000 in
theorem gX1_setX_X1_isWithin : GoodIn wsX1_setX (va_wsS RX1 96 yX1_isWithin wsX1_isWithin) := goodIn_app (goodIn_of _ (by decide +kernel)) ggX1_setX_X1_isWithin
theorem dX1_setX_0 : decode cX1_setX 0 = .ok (.iload_n 1, 1) := by decide +kernel
theorem dX1_setX_1 : decode cX1_setX 1 = .ok (.aload_n 0, 1) := by decide +kernel
theorem dX1_setX_2 : decode cX1_setX 2 = .ok (.getfield 17, 3) := by decide +kernel
theorem dX1_setX_5 : decode cX1_setX 5 = .ok (.invokestatic 96, 3) := by decide +kernel
theorem dX1_setX_8 : decode cX1_setX 8 = .ok (.ifCond .ne 5, 3) := by decide +kernel
theorem dX1_setX_11 : decode cX1_setX 11 = .ok (.iconst 0, 1) := by decide +kernel
theorem dX1_setX_12 : decode cX1_setX 12 = .ok (.ireturn, 1) := by decide +kernel
theorem dX1_setX_13 : decode cX1_setX 13 = .ok (.aload_n 0, 1) := by decide +kernel
theorem dX1_setX_14 : decode cX1_setX 14 = .ok (.getfield 53, 3) := by decide +kernel
theorem dX1_setX_17 : decode cX1_setX 17 = .ok (.iload_n 1, 1) := by decide +kernel
theorem dX1_setX_18 : decode cX1_setX 18 = .ok (.iload_n 2, 1) := by decide +kernel
theorem dX1_setX_19 : decode cX1_setX 19 = .ok (.iastore, 1) := by decide +kernel
theorem dX1_setX_20 : decode cX1_setX 20 = .ok (.iconst 1, 1) := by decide +kernel
theorem dX1_setX_21 : decode cX1_setX 21 = .ok (.ireturn, 1) := by decide +kernel
set_option maxRecDepth 20000 in
theorem ggX1_multiplyVector_X0_rowTimes : GoodIn wsX1_multiplyVector wsX0_rowTimes := goodIn_r _ [9, 10, 11, 12, 25, 26, 27] (by decide +kernel) (by decide +kernel)
set_option maxRecDepth 20000 in
theorem gX1_multiplyVector_X0_rowTimes : GoodIn wsX1_multiplyVector (wsV RX1 99 RX0 yX0_rowTimes wsX0_rowTimes) := goodIn_app (goodIn_of _ (by decide +kernel)) ggX1_multiplyVector_X0_rowTimes
theorem dX1_multiplyVector_0 : decode cX1_multiplyVector 0 = .ok (.iconst 0, 1) := by decide +kernel
theorem dX1_multiplyVector_1 : decode cX1_multiplyVector 1 = .ok (.istore_n 1, 1) := by decide +kernel
theorem dX1_multiplyVector_2 : decode cX1_multiplyVector 2 = .ok (.iload_n 1, 1) := by decide +kernel
theorem dX1_multiplyVector_3 : decode cX1_multiplyVector 3 = .ok (.aload_n 0, 1) := by decide +kernel
theorem dX1_multiplyVector_4 : decode cX1_multiplyVector 4 = .ok (.getfield 13, 3) := by decide +kernel
theorem dX1_multiplyVector_7 : decode cX1_multiplyVector 7 = .ok (.if_icmp .ge 27, 3) := by decide +kernel
theorem dX1_multiplyVector_10 : decode cX1_multiplyVector 10 = .ok (.aload_n 0, 1) := by decide +kernel
theorem dX1_multiplyVector_11 : decode cX1_multiplyVector 11 = .ok (.getfield 56, 3) := by decide +kernel
theorem dX1_multiplyVector_14 : decode cX1_multiplyVector 14 = .ok (.iload_n 1, 1) := by decide +kernel
theorem dX1_multiplyVector_15 : decode cX1_multiplyVector 15 = .ok (.aload_n 0, 1) := by decide +kernel
theorem dX1_multiplyVector_16 : decode cX1_multiplyVector 16 = .ok (.getfield 33, 3) := by decide +kernel
theorem dX1_multiplyVector_19 : decode cX1_multiplyVector 19 = .ok (.iload_n 1, 1) := by decide +kernel
theorem dX1_multiplyVector_20 : decode cX1_multiplyVector 20 = .ok (.aload_n 0, 1) := by decide +kernel
theorem dX1_multiplyVector_21 : decode cX1_multiplyVector 21 = .ok (.getfield 53, 3) := by decide +kernel
theorem dX1_multiplyVector_24 : decode cX1_multiplyVector 24 = .ok (.invokevirtual 99, 3) := by decide +kernel
theorem dX1_multiplyVector_27 : decode cX1_multiplyVector 27 = .ok (.iastore, 1) := by decide +kernel
theorem dX1_multiplyVector_28 : decode cX1_multiplyVector 28 = .ok (.iinc 1 1, 3) := by decide +kernel
theorem dX1_multiplyVector_31 : decode cX1_multiplyVector 31 = .ok (.goto (-29), 3) := by decide +kernel
theorem dX1_multiplyVector_34 : decode cX1_multiplyVector 34 = .ok (.iconst 1, 1) := by decide +kernel
theorem dX1_multiplyVector_35 : decode cX1_multiplyVector 35 = .ok (.ireturn, 1) := by decide +kernel
set_option maxRecDepth 20000 in
theorem ggX1_y_X1_isWithin : GoodIn wsX1_y wsX1_isWithin := goodIn_r _ [6] (by decide +kernel) (by decide +kernel)
set_option maxRecDepth 20000 in
theorem gX1_y_X1_isWithin : GoodIn wsX1_y (va_wsS RX1 96 yX1_isWithin wsX1_isWithin) := goodIn_app (goodIn_of _ (by decide +kernel)) ggX1_y_X1_isWithin
theorem dX1_y_0 : decode cX1_y 0 = .ok (.iload_n 1, 1) := by decide +kernel
theorem dX1_y_1 : decode cX1_y 1 = .ok (.aload_n 0, 1) := by decide +kernel
theorem dX1_y_2 : decode cX1_y 2 = .ok (.getfield 13, 3) := by decide +kernel
theorem dX1_y_5 : decode cX1_y 5 = .ok (.invokestatic 96, 3) := by decide +kernel
theorem dX1_y_8 : decode cX1_y 8 = .ok (.ifCond .eq 12, 3) := by decide +kernel
theorem dX1_y_11 : decode cX1_y 11 = .ok (.aload_n 0, 1) := by decide +kernel
theorem dX1_y_12 : decode cX1_y 12 = .ok (.getfield 56, 3) := by decide +kernel
theorem dX1_y_15 : decode cX1_y 15 = .ok (.iload_n 1, 1) := by decide +kernel
theorem dX1_y_16 : decode cX1_y 16 = .ok (.iaload, 1) := by decide +kernel
theorem dX1_y_17 : decode cX1_y 17 = .ok (.goto 4, 3) := by decide +kernel
theorem dX1_y_20 : decode cX1_y 20 = .ok (.iconst 0, 1) := by decide +kernel
theorem dX1_y_21 : decode cX1_y 21 = .ok (.ireturn, 1) := by decide +kernel
set_option maxRecDepth 20000 in
theorem ggX1_transpose_J7_fill_53178 : GoodIn wsX1_transpose wsJ7_fill_53178 := goodIn_r _ [12] (by decide +kernel) (by decide +kernel)
set_option maxRecDepth 20000 in
theorem gX1_transpose_J7_fill_53178 : GoodIn wsX1_transpose (va_wsS RX1 66 yJ7_fill_53178 wsJ7_fill_53178) := goodIn_app (goodIn_of _ (by decide +kernel)) ggX1_transpose_J7_fill_53178
set_option maxRecDepth 20000 in
theorem ggX1_transpose_X0_entry : GoodIn wsX1_transpose wsX0_entry := goodIn_r _ [17, 18, 19, 20, 42, 43, 44] (by decide +kernel) (by decide +kernel)
set_option maxRecDepth 20000 in
theorem gX1_transpose_X0_entry : GoodIn wsX1_transpose (wsV RX1 90 RX0 yX0_entry wsX0_entry) := goodIn_app (goodIn_of _ (by decide +kernel)) ggX1_transpose_X0_entry
set_option maxRecDepth 20000 in
theorem ggX1_transpose_X0_putRow : GoodIn wsX1_transpose wsX0_putRow := goodIn_r _ [24, 18, 19, 20, 42, 43, 44] (by decide +kernel) (by decide +kernel)
set_option maxRecDepth 20000 in
theorem gX1_transpose_X0_putRow : GoodIn wsX1_transpose (wsV RX1 79 RX0 yX0_putRow wsX0_putRow) := goodIn_app (goodIn_of _ (by decide +kernel)) ggX1_transpose_X0_putRow
set_option maxRecDepth 20000 in
theorem ggX1_transpose_X1_swapSupports : GoodIn wsX1_transpose wsX1_swapSupports := goodIn_r _ [29, 5, 6, 30, 31, 32, 33, 34, 35, 36, 37, 38, 39, 40, 41] (by decide +kernel) (by decide +kernel)
set_option maxRecDepth 20000 in
theorem gX1_transpose_X1_swapSupports : GoodIn wsX1_transpose (wsV RX1 83 RX1 yX1_swapSupports wsX1_swapSupports) := goodIn_app (goodIn_of _ (by decide +kernel)) ggX1_transpose_X1_swapSupports
theorem dX1_transpose_0 : decode cX1_transpose 0 = .ok (.aload_n 0, 1) := by decide +kernel
theorem dX1_transpose_1 : decode cX1_transpose 1 = .ok (.getfield 50, 3) := by decide +kernel
theorem dX1_transpose_4 : decode cX1_transpose 4 = .ok (.ifCond .le 5, 3) := by decide +kernel
theorem dX1_transpose_7 : decode cX1_transpose 7 = .ok (.iconst 0, 1) := by decide +kernel
theorem dX1_transpose_8 : decode cX1_transpose 8 = .ok (.ireturn, 1) := by decide +kernel
theorem dX1_transpose_9 : decode cX1_transpose 9 = .ok (.iconst 0, 1) := by decide +kernel
theorem dX1_transpose_10 : decode cX1_transpose 10 = .ok (.istore_n 1, 1) := by decide +kernel
theorem dX1_transpose_11 : decode cX1_transpose 11 = .ok (.iload_n 1, 1) := by decide +kernel
theorem dX1_transpose_12 : decode cX1_transpose 12 = .ok (.aload_n 0, 1) := by decide +kernel
theorem dX1_transpose_13 : decode cX1_transpose 13 = .ok (.getfield 17, 3) := by decide +kernel
theorem dX1_transpose_16 : decode cX1_transpose 16 = .ok (.if_icmp .ge 61, 3) := by decide +kernel
theorem dX1_transpose_19 : decode cX1_transpose 19 = .ok (.aload_n 0, 1) := by decide +kernel
theorem dX1_transpose_20 : decode cX1_transpose 20 = .ok (.getfield 59, 3) := by decide +kernel
theorem dX1_transpose_23 : decode cX1_transpose 23 = .ok (.iconst 0, 1) := by decide +kernel
theorem dX1_transpose_24 : decode cX1_transpose 24 = .ok (.invokestatic 66, 3) := by decide +kernel
theorem dX1_transpose_27 : decode cX1_transpose 27 = .ok (.iconst 0, 1) := by decide +kernel
theorem dX1_transpose_28 : decode cX1_transpose 28 = .ok (.istore_n 2, 1) := by decide +kernel
theorem dX1_transpose_29 : decode cX1_transpose 29 = .ok (.iload_n 2, 1) := by decide +kernel
theorem dX1_transpose_30 : decode cX1_transpose 30 = .ok (.aload_n 0, 1) := by decide +kernel
theorem dX1_transpose_31 : decode cX1_transpose 31 = .ok (.getfield 13, 3) := by decide +kernel
theorem dX1_transpose_34 : decode cX1_transpose 34 = .ok (.if_icmp .ge 24, 3) := by decide +kernel
theorem dX1_transpose_37 : decode cX1_transpose 37 = .ok (.aload_n 0, 1) := by decide +kernel
theorem dX1_transpose_38 : decode cX1_transpose 38 = .ok (.getfield 59, 3) := by decide +kernel
theorem dX1_transpose_41 : decode cX1_transpose 41 = .ok (.iload_n 2, 1) := by decide +kernel
theorem dX1_transpose_42 : decode cX1_transpose 42 = .ok (.aload_n 0, 1) := by decide +kernel
theorem dX1_transpose_43 : decode cX1_transpose 43 = .ok (.getfield 33, 3) := by decide +kernel
theorem dX1_transpose_46 : decode cX1_transpose 46 = .ok (.iload_n 2, 1) := by decide +kernel
theorem dX1_transpose_47 : decode cX1_transpose 47 = .ok (.iload_n 1, 1) := by decide +kernel
theorem dX1_transpose_48 : decode cX1_transpose 48 = .ok (.invokevirtual 90, 3) := by decide +kernel
theorem dX1_transpose_51 : decode cX1_transpose 51 = .ok (.iastore, 1) := by decide +kernel
theorem dX1_transpose_52 : decode cX1_transpose 52 = .ok (.iinc 2 1, 3) := by decide +kernel
theorem dX1_transpose_55 : decode cX1_transpose 55 = .ok (.goto (-26), 3) := by decide +kernel
theorem dX1_transpose_58 : decode cX1_transpose 58 = .ok (.aload_n 0, 1) := by decide +kernel
theorem dX1_transpose_59 : decode cX1_transpose 59 = .ok (.getfield 37, 3) := by decide +kernel
theorem dX1_transpose_62 : decode cX1_transpose 62 = .ok (.iload_n 1, 1) := by decide +kernel
theorem dX1_transpose_63 : decode cX1_transpose 63 = .ok (.aload_n 0, 1) := by decide +kernel
theorem dX1_transpose_64 : decode cX1_transpose 64 = .ok (.getfield 59, 3) := by decide +kernel
theorem dX1_transpose_67 : decode cX1_transpose 67 = .ok (.invokevirtual 79, 3) := by decide +kernel
theorem dX1_transpose_70 : decode cX1_transpose 70 = .ok (.pop, 1) := by decide +kernel
theorem dX1_transpose_71 : decode cX1_transpose 71 = .ok (.iinc 1 1, 3) := by decide +kernel
theorem dX1_transpose_74 : decode cX1_transpose 74 = .ok (.goto (-63), 3) := by decide +kernel
theorem dX1_transpose_77 : decode cX1_transpose 77 = .ok (.aload_n 0, 1) := by decide +kernel
theorem dX1_transpose_78 : decode cX1_transpose 78 = .ok (.invokevirtual 83, 3) := by decide +kernel
theorem dX1_transpose_81 : decode cX1_transpose 81 = .ok (.aload_n 0, 1) := by decide +kernel
theorem dX1_transpose_82 : decode cX1_transpose 82 = .ok (.getfield 13, 3) := by decide +kernel
theorem dX1_transpose_85 : decode cX1_transpose 85 = .ok (.istore_n 1, 1) := by decide +kernel
theorem dX1_transpose_86 : decode cX1_transpose 86 = .ok (.aload_n 0, 1) := by decide +kernel
theorem dX1_transpose_87 : decode cX1_transpose 87 = .ok (.aload_n 0, 1) := by decide +kernel
theorem dX1_transpose_88 : decode cX1_transpose 88 = .ok (.getfield 17, 3) := by decide +kernel
theorem dX1_transpose_91 : decode cX1_transpose 91 = .ok (.putfield 13, 3) := by decide +kernel
theorem dX1_transpose_94 : decode cX1_transpose 94 = .ok (.aload_n 0, 1) := by decide +kernel
theorem dX1_transpose_95 : decode cX1_transpose 95 = .ok (.iload_n 1, 1) := by decide +kernel
theorem dX1_transpose_96 : decode cX1_transpose 96 = .ok (.putfield 17, 3) := by decide +kernel
theorem dX1_transpose_99 : decode cX1_transpose 99 = .ok (.aload_n 0, 1) := by decide +kernel
theorem dX1_transpose_100 : decode cX1_transpose 100 = .ok (.getfield 53, 3) := by decide +kernel
theorem dX1_transpose_103 : decode cX1_transpose 103 = .ok (.iconst 0, 1) := by decide +kernel
theorem dX1_transpose_104 : decode cX1_transpose 104 = .ok (.invokestatic 66, 3) := by decide +kernel
theorem dX1_transpose_107 : decode cX1_transpose 107 = .ok (.aload_n 0, 1) := by decide +kernel
theorem dX1_transpose_108 : decode cX1_transpose 108 = .ok (.getfield 56, 3) := by decide +kernel
theorem dX1_transpose_111 : decode cX1_transpose 111 = .ok (.iconst 0, 1) := by decide +kernel
theorem dX1_transpose_112 : decode cX1_transpose 112 = .ok (.invokestatic 66, 3) := by decide +kernel
theorem dX1_transpose_115 : decode cX1_transpose 115 = .ok (.iconst 1, 1) := by decide +kernel
theorem dX1_transpose_116 : decode cX1_transpose 116 = .ok (.ireturn, 1) := by decide +kernel
set_option maxRecDepth 20000 in
theorem ggX1_square_J7_fill_53178 : GoodIn wsX1_square wsJ7_fill_53178 := goodIn_r _ [9] (by decide +kernel) (by decide +kernel)
set_option maxRecDepth 20000 in
theorem gX1_square_J7_fill_53178 : GoodIn wsX1_square (va_wsS RX1 66 yJ7_fill_53178 wsJ7_fill_53178) := goodIn_app (goodIn_of _ (by decide +kernel)) ggX1_square_J7_fill_53178
set_option maxRecDepth 20000 in
theorem ggX1_square_X0_addSquaredRowTo : GoodIn wsX1_square wsX0_addSquaredRowTo := goodIn_r _ [14, 15, 16, 17, 18, 19, 20, 13, 21, 47, 48, 49] (by decide +kernel) (by decide +kernel)
set_option maxRecDepth 20000 in
theorem gX1_square_X0_addSquaredRowTo : GoodIn wsX1_square (wsV RX1 103 RX0 yX0_addSquaredRowTo wsX0_addSquaredRowTo) := goodIn_app (goodIn_of _ (by decide +kernel)) ggX1_square_X0_addSquaredRowTo
set_option maxRecDepth 20000 in
theorem ggX1_square_X0_putRow : GoodIn wsX1_square wsX0_putRow := goodIn_r _ [25, 15, 16, 17, 47, 48, 49] (by decide +kernel) (by decide +kernel)
set_option maxRecDepth 20000 in
theorem gX1_square_X0_putRow : GoodIn wsX1_square (wsV RX1 79 RX0 yX0_putRow wsX0_putRow) := goodIn_app (goodIn_of _ (by decide +kernel)) ggX1_square_X0_putRow
set_option maxRecDepth 20000 in
theorem ggX1_square_X1_swapSupports : GoodIn wsX1_square wsX1_swapSupports := goodIn_r _ [30, 4, 5, 35, 36, 37, 38, 39, 40, 41, 42, 43, 44, 45, 46] (by decide +kernel) (by decide +kernel)
set_option maxRecDepth 20000 in
theorem gX1_square_X1_swapSupports : GoodIn wsX1_square (wsV RX1 83 RX1 yX1_swapSupports wsX1_swapSupports) := goodIn_app (goodIn_of _ (by decide +kernel)) ggX1_square_X1_swapSupports
set_option maxRecDepth 20000 in
theorem ggX1_square_X0_placesAhead : GoodIn wsX1_square wsX0_placesAhead := goodIn_r _ [34, 15, 47, 48, 49] (by decide +kernel) (by decide +kernel)
set_option maxRecDepth 20000 in
theorem gX1_square_X0_placesAhead : GoodIn wsX1_square (wsV RX1 86 RX0 yX0_placesAhead wsX0_placesAhead) := goodIn_app (goodIn_of _ (by decide +kernel)) ggX1_square_X0_placesAhead
theorem dX1_square_0 : decode cX1_square 0 = .ok (.aload_n 0, 1) := by decide +kernel
theorem dX1_square_1 : decode cX1_square 1 = .ok (.getfield 13, 3) := by decide +kernel
theorem dX1_square_4 : decode cX1_square 4 = .ok (.aload_n 0, 1) := by decide +kernel
theorem dX1_square_5 : decode cX1_square 5 = .ok (.getfield 17, 3) := by decide +kernel
theorem dX1_square_8 : decode cX1_square 8 = .ok (.if_icmp .eq 6, 3) := by decide +kernel
theorem dX1_square_11 : decode cX1_square 11 = .ok (.bipush (-2), 2) := by decide +kernel
theorem dX1_square_13 : decode cX1_square 13 = .ok (.ireturn, 1) := by decide +kernel
theorem dX1_square_14 : decode cX1_square 14 = .ok (.iconst 0, 1) := by decide +kernel
theorem dX1_square_15 : decode cX1_square 15 = .ok (.istore_n 1, 1) := by decide +kernel
theorem dX1_square_16 : decode cX1_square 16 = .ok (.iload_n 1, 1) := by decide +kernel
theorem dX1_square_17 : decode cX1_square 17 = .ok (.aload_n 0, 1) := by decide +kernel
theorem dX1_square_18 : decode cX1_square 18 = .ok (.getfield 13, 3) := by decide +kernel
theorem dX1_square_21 : decode cX1_square 21 = .ok (.if_icmp .ge 46, 3) := by decide +kernel
theorem dX1_square_24 : decode cX1_square 24 = .ok (.aload_n 0, 1) := by decide +kernel
theorem dX1_square_25 : decode cX1_square 25 = .ok (.getfield 59, 3) := by decide +kernel
theorem dX1_square_28 : decode cX1_square 28 = .ok (.iconst 0, 1) := by decide +kernel
theorem dX1_square_29 : decode cX1_square 29 = .ok (.invokestatic 66, 3) := by decide +kernel
theorem dX1_square_32 : decode cX1_square 32 = .ok (.aload_n 0, 1) := by decide +kernel
theorem dX1_square_33 : decode cX1_square 33 = .ok (.getfield 33, 3) := by decide +kernel
theorem dX1_square_36 : decode cX1_square 36 = .ok (.aload_n 0, 1) := by decide +kernel
theorem dX1_square_37 : decode cX1_square 37 = .ok (.getfield 59, 3) := by decide +kernel
theorem dX1_square_40 : decode cX1_square 40 = .ok (.iload_n 1, 1) := by decide +kernel
theorem dX1_square_41 : decode cX1_square 41 = .ok (.invokevirtual 103, 3) := by decide +kernel
theorem dX1_square_44 : decode cX1_square 44 = .ok (.aload_n 0, 1) := by decide +kernel
theorem dX1_square_45 : decode cX1_square 45 = .ok (.getfield 37, 3) := by decide +kernel
theorem dX1_square_48 : decode cX1_square 48 = .ok (.iload_n 1, 1) := by decide +kernel
theorem dX1_square_49 : decode cX1_square 49 = .ok (.aload_n 0, 1) := by decide +kernel
theorem dX1_square_50 : decode cX1_square 50 = .ok (.getfield 59, 3) := by decide +kernel
theorem dX1_square_53 : decode cX1_square 53 = .ok (.invokevirtual 79, 3) := by decide +kernel
theorem dX1_square_56 : decode cX1_square 56 = .ok (.ifCond .ne 5, 3) := by decide +kernel
theorem dX1_square_59 : decode cX1_square 59 = .ok (.iconst (-1), 1) := by decide +kernel
theorem dX1_square_60 : decode cX1_square 60 = .ok (.ireturn, 1) := by decide +kernel
theorem dX1_square_61 : decode cX1_square 61 = .ok (.iinc 1 1, 3) := by decide +kernel
theorem dX1_square_64 : decode cX1_square 64 = .ok (.goto (-48), 3) := by decide +kernel
theorem dX1_square_67 : decode cX1_square 67 = .ok (.aload_n 0, 1) := by decide +kernel
theorem dX1_square_68 : decode cX1_square 68 = .ok (.invokevirtual 83, 3) := by decide +kernel
theorem dX1_square_71 : decode cX1_square 71 = .ok (.aload_n 0, 1) := by decide +kernel
theorem dX1_square_72 : decode cX1_square 72 = .ok (.getfield 33, 3) := by decide +kernel
theorem dX1_square_75 : decode cX1_square 75 = .ok (.aload_n 0, 1) := by decide +kernel
theorem dX1_square_76 : decode cX1_square 76 = .ok (.getfield 13, 3) := by decide +kernel
theorem dX1_square_79 : decode cX1_square 79 = .ok (.invokevirtual 86, 3) := by decide +kernel
theorem dX1_square_82 : decode cX1_square 82 = .ok (.ireturn, 1) := by decide +kernel
theorem dX1_count_0 : decode cX1_count 0 = .ok (.iload_n 1, 1) := by decide +kernel
theorem dX1_count_1 : decode cX1_count 1 = .ok (.tableswitch 51 0 3 #[31, 36, 41, 46], 31) := by decide +kernel
theorem dX1_count_32 : decode cX1_count 32 = .ok (.aload_n 0, 1) := by decide +kernel
theorem dX1_count_33 : decode cX1_count 33 = .ok (.getfield 13, 3) := by decide +kernel
theorem dX1_count_36 : decode cX1_count 36 = .ok (.ireturn, 1) := by decide +kernel
theorem dX1_count_37 : decode cX1_count 37 = .ok (.aload_n 0, 1) := by decide +kernel
theorem dX1_count_38 : decode cX1_count 38 = .ok (.getfield 17, 3) := by decide +kernel
theorem dX1_count_41 : decode cX1_count 41 = .ok (.ireturn, 1) := by decide +kernel
theorem dX1_count_42 : decode cX1_count 42 = .ok (.aload_n 0, 1) := by decide +kernel
theorem dX1_count_43 : decode cX1_count 43 = .ok (.getfield 20, 3) := by decide +kernel
theorem dX1_count_46 : decode cX1_count 46 = .ok (.ireturn, 1) := by decide +kernel
theorem dX1_count_47 : decode cX1_count 47 = .ok (.aload_n 0, 1) := by decide +kernel
theorem dX1_count_48 : decode cX1_count 48 = .ok (.getfield 50, 3) := by decide +kernel
theorem dX1_count_51 : decode cX1_count 51 = .ok (.ireturn, 1) := by decide +kernel
theorem dX1_count_52 : decode cX1_count 52 = .ok (.iconst (-1), 1) := by decide +kernel
theorem dX1_count_53 : decode cX1_count 53 = .ok (.ireturn, 1) := by decide +kernel
theorem dX1_nearest_0 : decode cX1_nearest 0 = .ok (.iconst 1, 1) := by decide +kernel
theorem dX1_nearest_1 : decode cX1_nearest 1 = .ok (.iload_n 1, 1) := by decide +kernel
theorem dX1_nearest_2 : decode cX1_nearest 2 = .ok (.iload_n 0, 1) := by decide +kernel
theorem dX1_nearest_3 : decode cX1_nearest 3 = .ok (.invokestatic 106, 3) := by decide +kernel
theorem dX1_nearest_6 : decode cX1_nearest 6 = .ok (.invokestatic 23, 3) := by decide +kernel
theorem dX1_nearest_9 : decode cX1_nearest 9 = .ok (.ireturn, 1) := by decide +kernel
theorem dX1_isWithin_0 : decode cX1_isWithin 0 = .ok (.iload_n 0, 1) := by decide +kernel
theorem dX1_isWithin_1 : decode cX1_isWithin 1 = .ok (.ifCond .lt 12, 3) := by decide +kernel
theorem dX1_isWithin_4 : decode cX1_isWithin 4 = .ok (.iload_n 0, 1) := by decide +kernel
theorem dX1_isWithin_5 : decode cX1_isWithin 5 = .ok (.iload_n 1, 1) := by decide +kernel
theorem dX1_isWithin_6 : decode cX1_isWithin 6 = .ok (.if_icmp .ge 7, 3) := by decide +kernel
theorem dX1_isWithin_9 : decode cX1_isWithin 9 = .ok (.iconst 1, 1) := by decide +kernel
theorem dX1_isWithin_10 : decode cX1_isWithin 10 = .ok (.goto 4, 3) := by decide +kernel
theorem dX1_isWithin_13 : decode cX1_isWithin 13 = .ok (.iconst 0, 1) := by decide +kernel
theorem dX1_isWithin_14 : decode cX1_isWithin 14 = .ok (.ireturn, 1) := by decide +kernel
set_option maxRecDepth 20000 in
theorem ggX1_hasPlace_X1_isWithin : GoodIn wsX1_hasPlace wsX1_isWithin := goodIn_r _ [6] (by decide +kernel) (by decide +kernel)
set_option maxRecDepth 20000 in
theorem gX1_hasPlace_X1_isWithin : GoodIn wsX1_hasPlace (va_wsS RX1 96 yX1_isWithin wsX1_isWithin) := goodIn_app (goodIn_of _ (by decide +kernel)) ggX1_hasPlace_X1_isWithin
theorem dX1_hasPlace_0 : decode cX1_hasPlace 0 = .ok (.iload_n 1, 1) := by decide +kernel
theorem dX1_hasPlace_1 : decode cX1_hasPlace 1 = .ok (.aload_n 0, 1) := by decide +kernel
theorem dX1_hasPlace_2 : decode cX1_hasPlace 2 = .ok (.getfield 13, 3) := by decide +kernel
theorem dX1_hasPlace_5 : decode cX1_hasPlace 5 = .ok (.invokestatic 96, 3) := by decide +kernel
theorem dX1_hasPlace_8 : decode cX1_hasPlace 8 = .ok (.ifCond .eq 18, 3) := by decide +kernel
theorem dX1_hasPlace_11 : decode cX1_hasPlace 11 = .ok (.iload_n 2, 1) := by decide +kernel
theorem dX1_hasPlace_12 : decode cX1_hasPlace 12 = .ok (.aload_n 0, 1) := by decide +kernel
theorem dX1_hasPlace_13 : decode cX1_hasPlace 13 = .ok (.getfield 17, 3) := by decide +kernel
theorem dX1_hasPlace_16 : decode cX1_hasPlace 16 = .ok (.invokestatic 96, 3) := by decide +kernel
theorem dX1_hasPlace_19 : decode cX1_hasPlace 19 = .ok (.ifCond .eq 7, 3) := by decide +kernel
theorem dX1_hasPlace_22 : decode cX1_hasPlace 22 = .ok (.iconst 1, 1) := by decide +kernel
theorem dX1_hasPlace_23 : decode cX1_hasPlace 23 = .ok (.goto 4, 3) := by decide +kernel
theorem dX1_hasPlace_26 : decode cX1_hasPlace 26 = .ok (.iconst 0, 1) := by decide +kernel
theorem dX1_hasPlace_27 : decode cX1_hasPlace 27 = .ok (.ireturn, 1) := by decide +kernel
theorem dX1_addPendingTo_0 : decode cX1_addPendingTo 0 = .ok (.iconst 0, 1) := by decide +kernel
theorem dX1_addPendingTo_1 : decode cX1_addPendingTo 1 = .ok (.istore_n 3, 1) := by decide +kernel
theorem dX1_addPendingTo_2 : decode cX1_addPendingTo 2 = .ok (.iload_n 3, 1) := by decide +kernel
theorem dX1_addPendingTo_3 : decode cX1_addPendingTo 3 = .ok (.aload_n 0, 1) := by decide +kernel
theorem dX1_addPendingTo_4 : decode cX1_addPendingTo 4 = .ok (.getfield 50, 3) := by decide +kernel
theorem dX1_addPendingTo_7 : decode cX1_addPendingTo 7 = .ok (.if_icmp .ge 36, 3) := by decide +kernel
theorem dX1_addPendingTo_10 : decode cX1_addPendingTo 10 = .ok (.aload_n 0, 1) := by decide +kernel
theorem dX1_addPendingTo_11 : decode cX1_addPendingTo 11 = .ok (.getfield 40, 3) := by decide +kernel
theorem dX1_addPendingTo_14 : decode cX1_addPendingTo 14 = .ok (.iload_n 3, 1) := by decide +kernel
theorem dX1_addPendingTo_15 : decode cX1_addPendingTo 15 = .ok (.iaload, 1) := by decide +kernel
theorem dX1_addPendingTo_16 : decode cX1_addPendingTo 16 = .ok (.iload_n 2, 1) := by decide +kernel
theorem dX1_addPendingTo_17 : decode cX1_addPendingTo 17 = .ok (.if_icmp .ne 20, 3) := by decide +kernel
theorem dX1_addPendingTo_20 : decode cX1_addPendingTo 20 = .ok (.aload_n 1, 1) := by decide +kernel
theorem dX1_addPendingTo_21 : decode cX1_addPendingTo 21 = .ok (.aload_n 0, 1) := by decide +kernel
theorem dX1_addPendingTo_22 : decode cX1_addPendingTo 22 = .ok (.getfield 44, 3) := by decide +kernel
theorem dX1_addPendingTo_25 : decode cX1_addPendingTo 25 = .ok (.iload_n 3, 1) := by decide +kernel
theorem dX1_addPendingTo_26 : decode cX1_addPendingTo 26 = .ok (.iaload, 1) := by decide +kernel
theorem dX1_addPendingTo_27 : decode cX1_addPendingTo 27 = .ok (.dup2, 1) := by decide +kernel
theorem dX1_addPendingTo_28 : decode cX1_addPendingTo 28 = .ok (.iaload, 1) := by decide +kernel
theorem dX1_addPendingTo_29 : decode cX1_addPendingTo 29 = .ok (.aload_n 0, 1) := by decide +kernel
theorem dX1_addPendingTo_30 : decode cX1_addPendingTo 30 = .ok (.getfield 47, 3) := by decide +kernel
theorem dX1_addPendingTo_33 : decode cX1_addPendingTo 33 = .ok (.iload_n 3, 1) := by decide +kernel
theorem dX1_addPendingTo_34 : decode cX1_addPendingTo 34 = .ok (.iaload, 1) := by decide +kernel
theorem dX1_addPendingTo_35 : decode cX1_addPendingTo 35 = .ok (.iadd, 1) := by decide +kernel
theorem dX1_addPendingTo_36 : decode cX1_addPendingTo 36 = .ok (.iastore, 1) := by decide +kernel
theorem dX1_addPendingTo_37 : decode cX1_addPendingTo 37 = .ok (.iinc 3 1, 3) := by decide +kernel
theorem dX1_addPendingTo_40 : decode cX1_addPendingTo 40 = .ok (.goto (-38), 3) := by decide +kernel
theorem dX1_addPendingTo_43 : decode cX1_addPendingTo 43 = .ok (.return_, 1) := by decide +kernel
theorem dX1_swapSupports_0 : decode cX1_swapSupports 0 = .ok (.aload_n 0, 1) := by decide +kernel
theorem dX1_swapSupports_1 : decode cX1_swapSupports 1 = .ok (.getfield 33, 3) := by decide +kernel
theorem dX1_swapSupports_4 : decode cX1_swapSupports 4 = .ok (.astore_n 1, 1) := by decide +kernel
theorem dX1_swapSupports_5 : decode cX1_swapSupports 5 = .ok (.aload_n 0, 1) := by decide +kernel
theorem dX1_swapSupports_6 : decode cX1_swapSupports 6 = .ok (.aload_n 0, 1) := by decide +kernel
theorem dX1_swapSupports_7 : decode cX1_swapSupports 7 = .ok (.getfield 37, 3) := by decide +kernel
theorem dX1_swapSupports_10 : decode cX1_swapSupports 10 = .ok (.putfield 33, 3) := by decide +kernel
theorem dX1_swapSupports_13 : decode cX1_swapSupports 13 = .ok (.aload_n 0, 1) := by decide +kernel
theorem dX1_swapSupports_14 : decode cX1_swapSupports 14 = .ok (.aload_n 1, 1) := by decide +kernel
theorem dX1_swapSupports_15 : decode cX1_swapSupports 15 = .ok (.putfield 37, 3) := by decide +kernel
theorem dX1_swapSupports_18 : decode cX1_swapSupports 18 = .ok (.return_, 1) := by decide +kernel
set_option maxRecDepth 20000 in
theorem ggX2_init_X2_within : GoodIn wsX2_init wsX2_within := goodIn_r _ [16] (by decide +kernel) (by decide +kernel)
set_option maxRecDepth 20000 in
theorem gX2_init_X2_within : GoodIn wsX2_init (va_wsS RX2 25 yX2_within wsX2_within) := goodIn_app (goodIn_of _ (by decide +kernel)) ggX2_init_X2_within
theorem dX2_init_0 : decode cX2_init 0 = .ok (.aload_n 0, 1) := by decide +kernel
theorem dX2_init_1 : decode cX2_init 1 = .ok (.invokespecial 1, 3) := by decide +kernel
theorem dX2_init_4 : decode cX2_init 4 = .ok (.aload_n 0, 1) := by decide +kernel
theorem dX2_init_5 : decode cX2_init 5 = .ok (.sipush 3600, 3) := by decide +kernel
theorem dX2_init_8 : decode cX2_init 8 = .ok (.newarray .int, 2) := by decide +kernel
theorem dX2_init_10 : decode cX2_init 10 = .ok (.putfield 7, 3) := by decide +kernel
theorem dX2_init_13 : decode cX2_init 13 = .ok (.aload_n 0, 1) := by decide +kernel
theorem dX2_init_14 : decode cX2_init 14 = .ok (.sipush 3600, 3) := by decide +kernel
theorem dX2_init_17 : decode cX2_init 17 = .ok (.newarray .int, 2) := by decide +kernel
theorem dX2_init_19 : decode cX2_init 19 = .ok (.putfield 13, 3) := by decide +kernel
theorem dX2_init_22 : decode cX2_init 22 = .ok (.aload_n 0, 1) := by decide +kernel
theorem dX2_init_23 : decode cX2_init 23 = .ok (.sipush 3600, 3) := by decide +kernel
theorem dX2_init_26 : decode cX2_init 26 = .ok (.newarray .int, 2) := by decide +kernel
theorem dX2_init_28 : decode cX2_init 28 = .ok (.putfield 16, 3) := by decide +kernel
theorem dX2_init_31 : decode cX2_init 31 = .ok (.aload_n 0, 1) := by decide +kernel
theorem dX2_init_32 : decode cX2_init 32 = .ok (.bipush 60, 2) := by decide +kernel
theorem dX2_init_34 : decode cX2_init 34 = .ok (.newarray .int, 2) := by decide +kernel
theorem dX2_init_36 : decode cX2_init 36 = .ok (.putfield 19, 3) := by decide +kernel
theorem dX2_init_39 : decode cX2_init 39 = .ok (.aload_n 0, 1) := by decide +kernel
theorem dX2_init_40 : decode cX2_init 40 = .ok (.bipush 60, 2) := by decide +kernel
theorem dX2_init_42 : decode cX2_init 42 = .ok (.newarray .int, 2) := by decide +kernel
theorem dX2_init_44 : decode cX2_init 44 = .ok (.putfield 22, 3) := by decide +kernel
theorem dX2_init_47 : decode cX2_init 47 = .ok (.aload_n 0, 1) := by decide +kernel
theorem dX2_init_48 : decode cX2_init 48 = .ok (.iload_n 1, 1) := by decide +kernel
theorem dX2_init_49 : decode cX2_init 49 = .ok (.bipush 60, 2) := by decide +kernel
theorem dX2_init_51 : decode cX2_init 51 = .ok (.invokestatic 25, 3) := by decide +kernel
theorem dX2_init_54 : decode cX2_init 54 = .ok (.putfield 29, 3) := by decide +kernel
theorem dX2_init_57 : decode cX2_init 57 = .ok (.aload_n 0, 1) := by decide +kernel
theorem dX2_init_58 : decode cX2_init 58 = .ok (.iload_n 2, 1) := by decide +kernel
theorem dX2_init_59 : decode cX2_init 59 = .ok (.bipush 60, 2) := by decide +kernel
theorem dX2_init_61 : decode cX2_init 61 = .ok (.invokestatic 25, 3) := by decide +kernel
theorem dX2_init_64 : decode cX2_init 64 = .ok (.putfield 33, 3) := by decide +kernel
theorem dX2_init_67 : decode cX2_init 67 = .ok (.aload_n 0, 1) := by decide +kernel
theorem dX2_init_68 : decode cX2_init 68 = .ok (.iload_n 3, 1) := by decide +kernel
theorem dX2_init_69 : decode cX2_init 69 = .ok (.sipush 1000, 3) := by decide +kernel
theorem dX2_init_72 : decode cX2_init 72 = .ok (.invokestatic 25, 3) := by decide +kernel
theorem dX2_init_75 : decode cX2_init 75 = .ok (.putfield 36, 3) := by decide +kernel
theorem dX2_init_78 : decode cX2_init 78 = .ok (.return_, 1) := by decide +kernel
theorem dX2_within_0 : decode cX2_within 0 = .ok (.iload_n 0, 1) := by decide +kernel
theorem dX2_within_1 : decode cX2_within 1 = .ok (.iconst 1, 1) := by decide +kernel
theorem dX2_within_2 : decode cX2_within 2 = .ok (.if_icmp .ge 7, 3) := by decide +kernel
theorem dX2_within_5 : decode cX2_within 5 = .ok (.iconst 1, 1) := by decide +kernel
theorem dX2_within_6 : decode cX2_within 6 = .ok (.goto 13, 3) := by decide +kernel
theorem dX2_within_9 : decode cX2_within 9 = .ok (.iload_n 0, 1) := by decide +kernel
theorem dX2_within_10 : decode cX2_within 10 = .ok (.iload_n 1, 1) := by decide +kernel
theorem dX2_within_11 : decode cX2_within 11 = .ok (.if_icmp .le 7, 3) := by decide +kernel
theorem dX2_within_14 : decode cX2_within 14 = .ok (.iload_n 1, 1) := by decide +kernel
theorem dX2_within_15 : decode cX2_within 15 = .ok (.goto 4, 3) := by decide +kernel
theorem dX2_within_18 : decode cX2_within 18 = .ok (.iload_n 0, 1) := by decide +kernel
theorem dX2_within_19 : decode cX2_within 19 = .ok (.ireturn, 1) := by decide +kernel
theorem dX2_in_0 : decode cX2_in 0 = .ok (.iload_n 0, 1) := by decide +kernel
theorem dX2_in_1 : decode cX2_in 1 = .ok (.iload_n 1, 1) := by decide +kernel
theorem dX2_in_2 : decode cX2_in 2 = .ok (.if_icmp .lt 12, 3) := by decide +kernel
theorem dX2_in_5 : decode cX2_in 5 = .ok (.iload_n 0, 1) := by decide +kernel
theorem dX2_in_6 : decode cX2_in 6 = .ok (.iload_n 2, 1) := by decide +kernel
theorem dX2_in_7 : decode cX2_in 7 = .ok (.if_icmp .gt 7, 3) := by decide +kernel
theorem dX2_in_10 : decode cX2_in 10 = .ok (.iconst 1, 1) := by decide +kernel
theorem dX2_in_11 : decode cX2_in 11 = .ok (.goto 4, 3) := by decide +kernel
theorem dX2_in_14 : decode cX2_in 14 = .ok (.iconst 0, 1) := by decide +kernel
theorem dX2_in_15 : decode cX2_in 15 = .ok (.ireturn, 1) := by decide +kernel
set_option maxRecDepth 20000 in
theorem ggX2_isPlace_X2_in : GoodIn wsX2_isPlace wsX2_in := goodIn_r _ [6] (by decide +kernel) (by decide +kernel)
set_option maxRecDepth 20000 in
theorem gX2_isPlace_X2_in : GoodIn wsX2_isPlace (va_wsS RX2 39 yX2_in wsX2_in) := goodIn_app (goodIn_of _ (by decide +kernel)) ggX2_isPlace_X2_in
theorem dX2_isPlace_0 : decode cX2_isPlace 0 = .ok (.iload_n 1, 1) := by decide +kernel
theorem dX2_isPlace_1 : decode cX2_isPlace 1 = .ok (.iconst 0, 1) := by decide +kernel
theorem dX2_isPlace_2 : decode cX2_isPlace 2 = .ok (.aload_n 0, 1) := by decide +kernel
theorem dX2_isPlace_3 : decode cX2_isPlace 3 = .ok (.getfield 29, 3) := by decide +kernel
theorem dX2_isPlace_6 : decode cX2_isPlace 6 = .ok (.iconst 1, 1) := by decide +kernel
theorem dX2_isPlace_7 : decode cX2_isPlace 7 = .ok (.isub, 1) := by decide +kernel
theorem dX2_isPlace_8 : decode cX2_isPlace 8 = .ok (.invokestatic 39, 3) := by decide +kernel
theorem dX2_isPlace_11 : decode cX2_isPlace 11 = .ok (.ifCond .eq 21, 3) := by decide +kernel
theorem dX2_isPlace_14 : decode cX2_isPlace 14 = .ok (.iload_n 2, 1) := by decide +kernel
theorem dX2_isPlace_15 : decode cX2_isPlace 15 = .ok (.iconst 0, 1) := by decide +kernel
theorem dX2_isPlace_16 : decode cX2_isPlace 16 = .ok (.aload_n 0, 1) := by decide +kernel
theorem dX2_isPlace_17 : decode cX2_isPlace 17 = .ok (.getfield 33, 3) := by decide +kernel
theorem dX2_isPlace_20 : decode cX2_isPlace 20 = .ok (.iconst 1, 1) := by decide +kernel
theorem dX2_isPlace_21 : decode cX2_isPlace 21 = .ok (.isub, 1) := by decide +kernel
theorem dX2_isPlace_22 : decode cX2_isPlace 22 = .ok (.invokestatic 39, 3) := by decide +kernel
theorem dX2_isPlace_25 : decode cX2_isPlace 25 = .ok (.ifCond .eq 7, 3) := by decide +kernel
theorem dX2_isPlace_28 : decode cX2_isPlace 28 = .ok (.iconst 1, 1) := by decide +kernel
theorem dX2_isPlace_29 : decode cX2_isPlace 29 = .ok (.goto 4, 3) := by decide +kernel
theorem dX2_isPlace_32 : decode cX2_isPlace 32 = .ok (.iconst 0, 1) := by decide +kernel
theorem dX2_isPlace_33 : decode cX2_isPlace 33 = .ok (.ireturn, 1) := by decide +kernel
set_option maxRecDepth 20000 in
theorem ggX2_add_X2_isPlace : GoodIn wsX2_add wsX2_isPlace := goodIn_r _ [8, 9, 10, 11, 12, 7, 13, 14, 15, 16, 17, 18, 19, 20, 21, 22] (by decide +kernel) (by decide +kernel)
set_option maxRecDepth 20000 in
theorem gX2_add_X2_isPlace : GoodIn wsX2_add (wsV RX2 43 RX2 yX2_isPlace wsX2_isPlace) := goodIn_app (goodIn_of _ (by decide +kernel)) ggX2_add_X2_isPlace
theorem dX2_add_0 : decode cX2_add 0 = .ok (.aload_n 0, 1) := by decide +kernel
theorem dX2_add_1 : decode cX2_add 1 = .ok (.iload_n 1, 1) := by decide +kernel
theorem dX2_add_2 : decode cX2_add 2 = .ok (.iload_n 2, 1) := by decide +kernel
theorem dX2_add_3 : decode cX2_add 3 = .ok (.invokevirtual 43, 3) := by decide +kernel
theorem dX2_add_6 : decode cX2_add 6 = .ok (.ifCond .eq 14, 3) := by decide +kernel
theorem dX2_add_9 : decode cX2_add 9 = .ok (.aload_n 0, 1) := by decide +kernel
theorem dX2_add_10 : decode cX2_add 10 = .ok (.getfield 47, 3) := by decide +kernel
theorem dX2_add_13 : decode cX2_add 13 = .ok (.aload_n 0, 1) := by decide +kernel
theorem dX2_add_14 : decode cX2_add 14 = .ok (.getfield 36, 3) := by decide +kernel
theorem dX2_add_17 : decode cX2_add 17 = .ok (.if_icmp .ne 5, 3) := by decide +kernel
theorem dX2_add_20 : decode cX2_add 20 = .ok (.iconst 0, 1) := by decide +kernel
theorem dX2_add_21 : decode cX2_add 21 = .ok (.ireturn, 1) := by decide +kernel
theorem dX2_add_22 : decode cX2_add 22 = .ok (.aload_n 0, 1) := by decide +kernel
theorem dX2_add_23 : decode cX2_add 23 = .ok (.getfield 16, 3) := by decide +kernel
theorem dX2_add_26 : decode cX2_add 26 = .ok (.bipush 60, 2) := by decide +kernel
theorem dX2_add_28 : decode cX2_add 28 = .ok (.iload_n 1, 1) := by decide +kernel
theorem dX2_add_29 : decode cX2_add 29 = .ok (.imul, 1) := by decide +kernel
theorem dX2_add_30 : decode cX2_add 30 = .ok (.iload_n 2, 1) := by decide +kernel
theorem dX2_add_31 : decode cX2_add 31 = .ok (.iadd, 1) := by decide +kernel
theorem dX2_add_32 : decode cX2_add 32 = .ok (.dup2, 1) := by decide +kernel
theorem dX2_add_33 : decode cX2_add 33 = .ok (.iaload, 1) := by decide +kernel
theorem dX2_add_34 : decode cX2_add 34 = .ok (.iload_n 3, 1) := by decide +kernel
theorem dX2_add_35 : decode cX2_add 35 = .ok (.iadd, 1) := by decide +kernel
theorem dX2_add_36 : decode cX2_add 36 = .ok (.iastore, 1) := by decide +kernel
theorem dX2_add_37 : decode cX2_add 37 = .ok (.aload_n 0, 1) := by decide +kernel
theorem dX2_add_38 : decode cX2_add 38 = .ok (.dup, 1) := by decide +kernel
theorem dX2_add_39 : decode cX2_add 39 = .ok (.getfield 47, 3) := by decide +kernel
theorem dX2_add_42 : decode cX2_add 42 = .ok (.iconst 1, 1) := by decide +kernel
theorem dX2_add_43 : decode cX2_add 43 = .ok (.iadd, 1) := by decide +kernel
theorem dX2_add_44 : decode cX2_add 44 = .ok (.putfield 47, 3) := by decide +kernel
theorem dX2_add_47 : decode cX2_add 47 = .ok (.iconst 1, 1) := by decide +kernel
theorem dX2_add_48 : decode cX2_add 48 = .ok (.ireturn, 1) := by decide +kernel
theorem dX2_many_0 : decode cX2_many 0 = .ok (.iconst 0, 1) := by decide +kernel
theorem dX2_many_1 : decode cX2_many 1 = .ok (.istore_n 3, 1) := by decide +kernel
theorem dX2_many_2 : decode cX2_many 2 = .ok (.iconst 0, 1) := by decide +kernel
theorem dX2_many_3 : decode cX2_many 3 = .ok (.istore 4, 2) := by decide +kernel
theorem dX2_many_5 : decode cX2_many 5 = .ok (.iload 4, 2) := by decide +kernel
theorem dX2_many_7 : decode cX2_many 7 = .ok (.iload_n 2, 1) := by decide +kernel
theorem dX2_many_8 : decode cX2_many 8 = .ok (.if_icmp .ge 48, 3) := by decide +kernel
theorem dX2_many_11 : decode cX2_many 11 = .ok (.iconst 0, 1) := by decide +kernel
theorem dX2_many_12 : decode cX2_many 12 = .ok (.istore 5, 2) := by decide +kernel
theorem dX2_many_14 : decode cX2_many 14 = .ok (.iload 5, 2) := by decide +kernel
theorem dX2_many_16 : decode cX2_many 16 = .ok (.aload_n 0, 1) := by decide +kernel
theorem dX2_many_17 : decode cX2_many 17 = .ok (.getfield 33, 3) := by decide +kernel
theorem dX2_many_20 : decode cX2_many 20 = .ok (.if_icmp .ge 30, 3) := by decide +kernel
theorem dX2_many_23 : decode cX2_many 23 = .ok (.iload_n 3, 1) := by decide +kernel
theorem dX2_many_24 : decode cX2_many 24 = .ok (.aload_n 1, 1) := by decide +kernel
theorem dX2_many_25 : decode cX2_many 25 = .ok (.bipush 60, 2) := by decide +kernel
theorem dX2_many_27 : decode cX2_many 27 = .ok (.iload 4, 2) := by decide +kernel
theorem dX2_many_29 : decode cX2_many 29 = .ok (.imul, 1) := by decide +kernel
theorem dX2_many_30 : decode cX2_many 30 = .ok (.iload 5, 2) := by decide +kernel
theorem dX2_many_32 : decode cX2_many 32 = .ok (.iadd, 1) := by decide +kernel
theorem dX2_many_33 : decode cX2_many 33 = .ok (.iaload, 1) := by decide +kernel
theorem dX2_many_34 : decode cX2_many 34 = .ok (.ifCond .eq 7, 3) := by decide +kernel
theorem dX2_many_37 : decode cX2_many 37 = .ok (.iconst 1, 1) := by decide +kernel
theorem dX2_many_38 : decode cX2_many 38 = .ok (.goto 4, 3) := by decide +kernel
theorem dX2_many_41 : decode cX2_many 41 = .ok (.iconst 0, 1) := by decide +kernel
theorem dX2_many_42 : decode cX2_many 42 = .ok (.iadd, 1) := by decide +kernel
theorem dX2_many_43 : decode cX2_many 43 = .ok (.istore_n 3, 1) := by decide +kernel
theorem dX2_many_44 : decode cX2_many 44 = .ok (.iinc 5 1, 3) := by decide +kernel
theorem dX2_many_47 : decode cX2_many 47 = .ok (.goto (-33), 3) := by decide +kernel
theorem dX2_many_50 : decode cX2_many 50 = .ok (.iinc 4 1, 3) := by decide +kernel
theorem dX2_many_53 : decode cX2_many 53 = .ok (.goto (-48), 3) := by decide +kernel
theorem dX2_many_56 : decode cX2_many 56 = .ok (.iload_n 3, 1) := by decide +kernel
theorem dX2_many_57 : decode cX2_many 57 = .ok (.ireturn, 1) := by decide +kernel
theorem dX2_turns_0 : decode cX2_turns 0 = .ok (.aload_n 0, 1) := by decide +kernel
theorem dX2_turns_1 : decode cX2_turns 1 = .ok (.getfield 7, 3) := by decide +kernel
theorem dX2_turns_4 : decode cX2_turns 4 = .ok (.astore_n 1, 1) := by decide +kernel
theorem dX2_turns_5 : decode cX2_turns 5 = .ok (.aload_n 0, 1) := by decide +kernel
theorem dX2_turns_6 : decode cX2_turns 6 = .ok (.aload_n 0, 1) := by decide +kernel
theorem dX2_turns_7 : decode cX2_turns 7 = .ok (.getfield 13, 3) := by decide +kernel
theorem dX2_turns_10 : decode cX2_turns 10 = .ok (.putfield 7, 3) := by decide +kernel
theorem dX2_turns_13 : decode cX2_turns 13 = .ok (.aload_n 0, 1) := by decide +kernel
theorem dX2_turns_14 : decode cX2_turns 14 = .ok (.aload_n 1, 1) := by decide +kernel
theorem dX2_turns_15 : decode cX2_turns 15 = .ok (.putfield 13, 3) := by decide +kernel
theorem dX2_turns_18 : decode cX2_turns 18 = .ok (.return_, 1) := by decide +kernel
set_option maxRecDepth 20000 in
theorem ggX2_becomes_X2_many : GoodIn wsX2_becomes wsX2_many := goodIn_r _ [8, 9, 15, 16, 17, 18, 19, 20, 21, 22, 23] (by decide +kernel) (by decide +kernel)
set_option maxRecDepth 20000 in
theorem gX2_becomes_X2_many : GoodIn wsX2_becomes (wsV RX2 50 RX2 yX2_many wsX2_many) := goodIn_app (goodIn_of _ (by decide +kernel)) ggX2_becomes_X2_many
set_option maxRecDepth 20000 in
theorem ggX2_becomes_X2_turns : GoodIn wsX2_becomes wsX2_turns := goodIn_r _ [13, 14, 1, 15, 16, 17, 18, 19, 20, 21, 22, 23] (by decide +kernel) (by decide +kernel)
set_option maxRecDepth 20000 in
theorem gX2_becomes_X2_turns : GoodIn wsX2_becomes (wsV RX2 54 RX2 yX2_turns wsX2_turns) := goodIn_app (goodIn_of _ (by decide +kernel)) ggX2_becomes_X2_turns
theorem dX2_becomes_0 : decode cX2_becomes 0 = .ok (.aload_n 0, 1) := by decide +kernel
theorem dX2_becomes_1 : decode cX2_becomes 1 = .ok (.aload_n 0, 1) := by decide +kernel
theorem dX2_becomes_2 : decode cX2_becomes 2 = .ok (.getfield 13, 3) := by decide +kernel
theorem dX2_becomes_5 : decode cX2_becomes 5 = .ok (.aload_n 0, 1) := by decide +kernel
theorem dX2_becomes_6 : decode cX2_becomes 6 = .ok (.getfield 29, 3) := by decide +kernel
theorem dX2_becomes_9 : decode cX2_becomes 9 = .ok (.invokevirtual 50, 3) := by decide +kernel
theorem dX2_becomes_12 : decode cX2_becomes 12 = .ok (.istore_n 1, 1) := by decide +kernel
theorem dX2_becomes_13 : decode cX2_becomes 13 = .ok (.iload_n 1, 1) := by decide +kernel
theorem dX2_becomes_14 : decode cX2_becomes 14 = .ok (.aload_n 0, 1) := by decide +kernel
theorem dX2_becomes_15 : decode cX2_becomes 15 = .ok (.getfield 36, 3) := by decide +kernel
theorem dX2_becomes_18 : decode cX2_becomes 18 = .ok (.if_icmp .le 5, 3) := by decide +kernel
theorem dX2_becomes_21 : decode cX2_becomes 21 = .ok (.iconst (-1), 1) := by decide +kernel
theorem dX2_becomes_22 : decode cX2_becomes 22 = .ok (.ireturn, 1) := by decide +kernel
theorem dX2_becomes_23 : decode cX2_becomes 23 = .ok (.aload_n 0, 1) := by decide +kernel
theorem dX2_becomes_24 : decode cX2_becomes 24 = .ok (.invokevirtual 54, 3) := by decide +kernel
theorem dX2_becomes_27 : decode cX2_becomes 27 = .ok (.iload_n 1, 1) := by decide +kernel
theorem dX2_becomes_28 : decode cX2_becomes 28 = .ok (.ireturn, 1) := by decide +kernel
set_option maxRecDepth 20000 in
theorem ggX2_build_X2_becomes : GoodIn wsX2_build wsX2_becomes := goodIn_r _ [11, 3, 1, 12, 13, 14, 15, 10, 16, 2, 17, 18, 19, 20, 4, 21, 22, 23, 24, 25, 26, 27, 28, 29] (by decide +kernel) (by decide +kernel)
set_option maxRecDepth 20000 in
theorem gX2_build_X2_becomes : GoodIn wsX2_build (wsV RX2 57 RX2 yX2_becomes wsX2_becomes) := goodIn_app (goodIn_of _ (by decide +kernel)) ggX2_build_X2_becomes
theorem dX2_build_0 : decode cX2_build 0 = .ok (.iconst 0, 1) := by decide +kernel
theorem dX2_build_1 : decode cX2_build 1 = .ok (.istore_n 1, 1) := by decide +kernel
theorem dX2_build_2 : decode cX2_build 2 = .ok (.iload_n 1, 1) := by decide +kernel
theorem dX2_build_3 : decode cX2_build 3 = .ok (.aload_n 0, 1) := by decide +kernel
theorem dX2_build_4 : decode cX2_build 4 = .ok (.getfield 29, 3) := by decide +kernel
theorem dX2_build_7 : decode cX2_build 7 = .ok (.if_icmp .ge 59, 3) := by decide +kernel
theorem dX2_build_10 : decode cX2_build 10 = .ok (.iconst 0, 1) := by decide +kernel
theorem dX2_build_11 : decode cX2_build 11 = .ok (.istore_n 2, 1) := by decide +kernel
theorem dX2_build_12 : decode cX2_build 12 = .ok (.iload_n 2, 1) := by decide +kernel
theorem dX2_build_13 : decode cX2_build 13 = .ok (.aload_n 0, 1) := by decide +kernel
theorem dX2_build_14 : decode cX2_build 14 = .ok (.getfield 33, 3) := by decide +kernel
theorem dX2_build_17 : decode cX2_build 17 = .ok (.if_icmp .ge 43, 3) := by decide +kernel
theorem dX2_build_20 : decode cX2_build 20 = .ok (.aload_n 0, 1) := by decide +kernel
theorem dX2_build_21 : decode cX2_build 21 = .ok (.getfield 13, 3) := by decide +kernel
theorem dX2_build_24 : decode cX2_build 24 = .ok (.bipush 60, 2) := by decide +kernel
theorem dX2_build_26 : decode cX2_build 26 = .ok (.iload_n 1, 1) := by decide +kernel
theorem dX2_build_27 : decode cX2_build 27 = .ok (.imul, 1) := by decide +kernel
theorem dX2_build_28 : decode cX2_build 28 = .ok (.iload_n 2, 1) := by decide +kernel
theorem dX2_build_29 : decode cX2_build 29 = .ok (.iadd, 1) := by decide +kernel
theorem dX2_build_30 : decode cX2_build 30 = .ok (.aload_n 0, 1) := by decide +kernel
theorem dX2_build_31 : decode cX2_build 31 = .ok (.getfield 7, 3) := by decide +kernel
theorem dX2_build_34 : decode cX2_build 34 = .ok (.bipush 60, 2) := by decide +kernel
theorem dX2_build_36 : decode cX2_build 36 = .ok (.iload_n 1, 1) := by decide +kernel
theorem dX2_build_37 : decode cX2_build 37 = .ok (.imul, 1) := by decide +kernel
theorem dX2_build_38 : decode cX2_build 38 = .ok (.iload_n 2, 1) := by decide +kernel
theorem dX2_build_39 : decode cX2_build 39 = .ok (.iadd, 1) := by decide +kernel
theorem dX2_build_40 : decode cX2_build 40 = .ok (.iaload, 1) := by decide +kernel
theorem dX2_build_41 : decode cX2_build 41 = .ok (.aload_n 0, 1) := by decide +kernel
theorem dX2_build_42 : decode cX2_build 42 = .ok (.getfield 16, 3) := by decide +kernel
theorem dX2_build_45 : decode cX2_build 45 = .ok (.bipush 60, 2) := by decide +kernel
theorem dX2_build_47 : decode cX2_build 47 = .ok (.iload_n 1, 1) := by decide +kernel
theorem dX2_build_48 : decode cX2_build 48 = .ok (.imul, 1) := by decide +kernel
theorem dX2_build_49 : decode cX2_build 49 = .ok (.iload_n 2, 1) := by decide +kernel
theorem dX2_build_50 : decode cX2_build 50 = .ok (.iadd, 1) := by decide +kernel
theorem dX2_build_51 : decode cX2_build 51 = .ok (.iaload, 1) := by decide +kernel
theorem dX2_build_52 : decode cX2_build 52 = .ok (.iadd, 1) := by decide +kernel
theorem dX2_build_53 : decode cX2_build 53 = .ok (.iastore, 1) := by decide +kernel
theorem dX2_build_54 : decode cX2_build 54 = .ok (.iinc 2 1, 3) := by decide +kernel
theorem dX2_build_57 : decode cX2_build 57 = .ok (.goto (-45), 3) := by decide +kernel
theorem dX2_build_60 : decode cX2_build 60 = .ok (.iinc 1 1, 3) := by decide +kernel
theorem dX2_build_63 : decode cX2_build 63 = .ok (.goto (-61), 3) := by decide +kernel
theorem dX2_build_66 : decode cX2_build 66 = .ok (.aload_n 0, 1) := by decide +kernel
theorem dX2_build_67 : decode cX2_build 67 = .ok (.invokevirtual 57, 3) := by decide +kernel
theorem dX2_build_70 : decode cX2_build 70 = .ok (.istore_n 1, 1) := by decide +kernel
theorem dX2_build_71 : decode cX2_build 71 = .ok (.iload_n 1, 1) := by decide +kernel
theorem dX2_build_72 : decode cX2_build 72 = .ok (.iconst (-1), 1) := by decide +kernel
theorem dX2_build_73 : decode cX2_build 73 = .ok (.if_icmp .ne 5, 3) := by decide +kernel
theorem dX2_build_76 : decode cX2_build 76 = .ok (.iconst (-1), 1) := by decide +kernel
theorem dX2_build_77 : decode cX2_build 77 = .ok (.ireturn, 1) := by decide +kernel
theorem dX2_build_78 : decode cX2_build 78 = .ok (.iconst 0, 1) := by decide +kernel
theorem dX2_build_79 : decode cX2_build 79 = .ok (.istore_n 2, 1) := by decide +kernel
theorem dX2_build_80 : decode cX2_build 80 = .ok (.iload_n 2, 1) := by decide +kernel
theorem dX2_build_81 : decode cX2_build 81 = .ok (.sipush 3600, 3) := by decide +kernel
theorem dX2_build_84 : decode cX2_build 84 = .ok (.if_icmp .ge 16, 3) := by decide +kernel
theorem dX2_build_87 : decode cX2_build 87 = .ok (.aload_n 0, 1) := by decide +kernel
theorem dX2_build_88 : decode cX2_build 88 = .ok (.getfield 16, 3) := by decide +kernel
theorem dX2_build_91 : decode cX2_build 91 = .ok (.iload_n 2, 1) := by decide +kernel
theorem dX2_build_92 : decode cX2_build 92 = .ok (.iconst 0, 1) := by decide +kernel
theorem dX2_build_93 : decode cX2_build 93 = .ok (.iastore, 1) := by decide +kernel
theorem dX2_build_94 : decode cX2_build 94 = .ok (.iinc 2 1, 3) := by decide +kernel
theorem dX2_build_97 : decode cX2_build 97 = .ok (.goto (-17), 3) := by decide +kernel
theorem dX2_build_100 : decode cX2_build 100 = .ok (.aload_n 0, 1) := by decide +kernel
theorem dX2_build_101 : decode cX2_build 101 = .ok (.iconst 0, 1) := by decide +kernel
theorem dX2_build_102 : decode cX2_build 102 = .ok (.putfield 47, 3) := by decide +kernel
theorem dX2_build_105 : decode cX2_build 105 = .ok (.iload_n 1, 1) := by decide +kernel
theorem dX2_build_106 : decode cX2_build 106 = .ok (.ireturn, 1) := by decide +kernel
set_option maxRecDepth 20000 in
theorem ggX2_nnz_X2_many : GoodIn wsX2_nnz wsX2_many := goodIn_r _ [7, 8, 9, 10, 11, 12, 13, 14, 15, 16, 17] (by decide +kernel) (by decide +kernel)
set_option maxRecDepth 20000 in
theorem gX2_nnz_X2_many : GoodIn wsX2_nnz (wsV RX2 50 RX2 yX2_many wsX2_many) := goodIn_app (goodIn_of _ (by decide +kernel)) ggX2_nnz_X2_many
theorem dX2_nnz_0 : decode cX2_nnz 0 = .ok (.aload_n 0, 1) := by decide +kernel
theorem dX2_nnz_1 : decode cX2_nnz 1 = .ok (.aload_n 0, 1) := by decide +kernel
theorem dX2_nnz_2 : decode cX2_nnz 2 = .ok (.getfield 7, 3) := by decide +kernel
theorem dX2_nnz_5 : decode cX2_nnz 5 = .ok (.aload_n 0, 1) := by decide +kernel
theorem dX2_nnz_6 : decode cX2_nnz 6 = .ok (.getfield 29, 3) := by decide +kernel
theorem dX2_nnz_9 : decode cX2_nnz 9 = .ok (.invokevirtual 50, 3) := by decide +kernel
theorem dX2_nnz_12 : decode cX2_nnz 12 = .ok (.ireturn, 1) := by decide +kernel
set_option maxRecDepth 20000 in
theorem ggX2_at_X2_isPlace : GoodIn wsX2_at wsX2_isPlace := goodIn_r _ [6, 7, 8, 9, 10, 5, 11, 12, 13, 14, 15, 16, 17, 18, 19, 20] (by decide +kernel) (by decide +kernel)
set_option maxRecDepth 20000 in
theorem gX2_at_X2_isPlace : GoodIn wsX2_at (wsV RX2 43 RX2 yX2_isPlace wsX2_isPlace) := goodIn_app (goodIn_of _ (by decide +kernel)) ggX2_at_X2_isPlace
theorem dX2_at_0 : decode cX2_at 0 = .ok (.aload_n 0, 1) := by decide +kernel
theorem dX2_at_1 : decode cX2_at 1 = .ok (.iload_n 1, 1) := by decide +kernel
theorem dX2_at_2 : decode cX2_at 2 = .ok (.iload_n 2, 1) := by decide +kernel
theorem dX2_at_3 : decode cX2_at 3 = .ok (.invokevirtual 43, 3) := by decide +kernel
theorem dX2_at_6 : decode cX2_at 6 = .ok (.ifCond .eq 17, 3) := by decide +kernel
theorem dX2_at_9 : decode cX2_at 9 = .ok (.aload_n 0, 1) := by decide +kernel
theorem dX2_at_10 : decode cX2_at 10 = .ok (.getfield 7, 3) := by decide +kernel
theorem dX2_at_13 : decode cX2_at 13 = .ok (.bipush 60, 2) := by decide +kernel
theorem dX2_at_15 : decode cX2_at 15 = .ok (.iload_n 1, 1) := by decide +kernel
theorem dX2_at_16 : decode cX2_at 16 = .ok (.imul, 1) := by decide +kernel
theorem dX2_at_17 : decode cX2_at 17 = .ok (.iload_n 2, 1) := by decide +kernel
theorem dX2_at_18 : decode cX2_at 18 = .ok (.iadd, 1) := by decide +kernel
theorem dX2_at_19 : decode cX2_at 19 = .ok (.iaload, 1) := by decide +kernel
theorem dX2_at_20 : decode cX2_at 20 = .ok (.goto 4, 3) := by decide +kernel
theorem dX2_at_23 : decode cX2_at 23 = .ok (.iconst 0, 1) := by decide +kernel
theorem dX2_at_24 : decode cX2_at 24 = .ok (.ireturn, 1) := by decide +kernel
set_option maxRecDepth 20000 in
theorem ggX2_rowStart_X2_in : GoodIn wsX2_rowStart wsX2_in := goodIn_r _ [6] (by decide +kernel) (by decide +kernel)
set_option maxRecDepth 20000 in
theorem gX2_rowStart_X2_in : GoodIn wsX2_rowStart (va_wsS RX2 39 yX2_in wsX2_in) := goodIn_app (goodIn_of _ (by decide +kernel)) ggX2_rowStart_X2_in
set_option maxRecDepth 20000 in
theorem ggX2_rowStart_X2_many : GoodIn wsX2_rowStart wsX2_many := goodIn_r _ [10, 11, 12, 13, 14, 15, 16, 17, 18, 19, 20] (by decide +kernel) (by decide +kernel)
set_option maxRecDepth 20000 in
theorem gX2_rowStart_X2_many : GoodIn wsX2_rowStart (wsV RX2 50 RX2 yX2_many wsX2_many) := goodIn_app (goodIn_of _ (by decide +kernel)) ggX2_rowStart_X2_many
theorem dX2_rowStart_0 : decode cX2_rowStart 0 = .ok (.iload_n 1, 1) := by decide +kernel
theorem dX2_rowStart_1 : decode cX2_rowStart 1 = .ok (.iconst 0, 1) := by decide +kernel
theorem dX2_rowStart_2 : decode cX2_rowStart 2 = .ok (.aload_n 0, 1) := by decide +kernel
theorem dX2_rowStart_3 : decode cX2_rowStart 3 = .ok (.getfield 29, 3) := by decide +kernel
theorem dX2_rowStart_6 : decode cX2_rowStart 6 = .ok (.invokestatic 39, 3) := by decide +kernel
theorem dX2_rowStart_9 : decode cX2_rowStart 9 = .ok (.ifCond .eq 15, 3) := by decide +kernel
theorem dX2_rowStart_12 : decode cX2_rowStart 12 = .ok (.aload_n 0, 1) := by decide +kernel
theorem dX2_rowStart_13 : decode cX2_rowStart 13 = .ok (.aload_n 0, 1) := by decide +kernel
theorem dX2_rowStart_14 : decode cX2_rowStart 14 = .ok (.getfield 7, 3) := by decide +kernel
theorem dX2_rowStart_17 : decode cX2_rowStart 17 = .ok (.iload_n 1, 1) := by decide +kernel
theorem dX2_rowStart_18 : decode cX2_rowStart 18 = .ok (.invokevirtual 50, 3) := by decide +kernel
theorem dX2_rowStart_21 : decode cX2_rowStart 21 = .ok (.goto 4, 3) := by decide +kernel
theorem dX2_rowStart_24 : decode cX2_rowStart 24 = .ok (.iconst (-1), 1) := by decide +kernel
theorem dX2_rowStart_25 : decode cX2_rowStart 25 = .ok (.ireturn, 1) := by decide +kernel
theorem dX2_colAt_0 : decode cX2_colAt 0 = .ok (.iconst 0, 1) := by decide +kernel
theorem dX2_colAt_1 : decode cX2_colAt 1 = .ok (.istore_n 2, 1) := by decide +kernel
theorem dX2_colAt_2 : decode cX2_colAt 2 = .ok (.iconst 0, 1) := by decide +kernel
theorem dX2_colAt_3 : decode cX2_colAt 3 = .ok (.istore_n 3, 1) := by decide +kernel
theorem dX2_colAt_4 : decode cX2_colAt 4 = .ok (.iload_n 3, 1) := by decide +kernel
theorem dX2_colAt_5 : decode cX2_colAt 5 = .ok (.aload_n 0, 1) := by decide +kernel
theorem dX2_colAt_6 : decode cX2_colAt 6 = .ok (.getfield 29, 3) := by decide +kernel
theorem dX2_colAt_9 : decode cX2_colAt 9 = .ok (.if_icmp .ge 56, 3) := by decide +kernel
theorem dX2_colAt_12 : decode cX2_colAt 12 = .ok (.iconst 0, 1) := by decide +kernel
theorem dX2_colAt_13 : decode cX2_colAt 13 = .ok (.istore 4, 2) := by decide +kernel
theorem dX2_colAt_15 : decode cX2_colAt 15 = .ok (.iload 4, 2) := by decide +kernel
theorem dX2_colAt_17 : decode cX2_colAt 17 = .ok (.aload_n 0, 1) := by decide +kernel
theorem dX2_colAt_18 : decode cX2_colAt 18 = .ok (.getfield 33, 3) := by decide +kernel
theorem dX2_colAt_21 : decode cX2_colAt 21 = .ok (.if_icmp .ge 38, 3) := by decide +kernel
theorem dX2_colAt_24 : decode cX2_colAt 24 = .ok (.aload_n 0, 1) := by decide +kernel
theorem dX2_colAt_25 : decode cX2_colAt 25 = .ok (.getfield 7, 3) := by decide +kernel
theorem dX2_colAt_28 : decode cX2_colAt 28 = .ok (.bipush 60, 2) := by decide +kernel
theorem dX2_colAt_30 : decode cX2_colAt 30 = .ok (.iload_n 3, 1) := by decide +kernel
theorem dX2_colAt_31 : decode cX2_colAt 31 = .ok (.imul, 1) := by decide +kernel
theorem dX2_colAt_32 : decode cX2_colAt 32 = .ok (.iload 4, 2) := by decide +kernel
theorem dX2_colAt_34 : decode cX2_colAt 34 = .ok (.iadd, 1) := by decide +kernel
theorem dX2_colAt_35 : decode cX2_colAt 35 = .ok (.iaload, 1) := by decide +kernel
theorem dX2_colAt_36 : decode cX2_colAt 36 = .ok (.ifCond .ne 6, 3) := by decide +kernel
theorem dX2_colAt_39 : decode cX2_colAt 39 = .ok (.goto 14, 3) := by decide +kernel
theorem dX2_colAt_42 : decode cX2_colAt 42 = .ok (.iload_n 2, 1) := by decide +kernel
theorem dX2_colAt_43 : decode cX2_colAt 43 = .ok (.iload_n 1, 1) := by decide +kernel
theorem dX2_colAt_44 : decode cX2_colAt 44 = .ok (.if_icmp .ne 6, 3) := by decide +kernel
theorem dX2_colAt_47 : decode cX2_colAt 47 = .ok (.iload 4, 2) := by decide +kernel
theorem dX2_colAt_49 : decode cX2_colAt 49 = .ok (.ireturn, 1) := by decide +kernel
theorem dX2_colAt_50 : decode cX2_colAt 50 = .ok (.iinc 2 1, 3) := by decide +kernel
theorem dX2_colAt_53 : decode cX2_colAt 53 = .ok (.iinc 4 1, 3) := by decide +kernel
theorem dX2_colAt_56 : decode cX2_colAt 56 = .ok (.goto (-41), 3) := by decide +kernel
theorem dX2_colAt_59 : decode cX2_colAt 59 = .ok (.iinc 3 1, 3) := by decide +kernel
theorem dX2_colAt_62 : decode cX2_colAt 62 = .ok (.goto (-58), 3) := by decide +kernel
theorem dX2_colAt_65 : decode cX2_colAt 65 = .ok (.iconst (-1), 1) := by decide +kernel
theorem dX2_colAt_66 : decode cX2_colAt 66 = .ok (.ireturn, 1) := by decide +kernel
set_option maxRecDepth 20000 in
theorem ggX2_setX_X2_in : GoodIn wsX2_setX wsX2_in := goodIn_r _ [6] (by decide +kernel) (by decide +kernel)
set_option maxRecDepth 20000 in
theorem gX2_setX_X2_in : GoodIn wsX2_setX (va_wsS RX2 39 yX2_in wsX2_in) := goodIn_app (goodIn_of _ (by decide +kernel)) ggX2_setX_X2_in
theorem dX2_setX_0 : decode cX2_setX 0 = .ok (.iload_n 1, 1) := by decide +kernel
theorem dX2_setX_1 : decode cX2_setX 1 = .ok (.iconst 0, 1) := by decide +kernel
theorem dX2_setX_2 : decode cX2_setX 2 = .ok (.aload_n 0, 1) := by decide +kernel
theorem dX2_setX_3 : decode cX2_setX 3 = .ok (.getfield 33, 3) := by decide +kernel
theorem dX2_setX_6 : decode cX2_setX 6 = .ok (.iconst 1, 1) := by decide +kernel
theorem dX2_setX_7 : decode cX2_setX 7 = .ok (.isub, 1) := by decide +kernel
theorem dX2_setX_8 : decode cX2_setX 8 = .ok (.invokestatic 39, 3) := by decide +kernel
theorem dX2_setX_11 : decode cX2_setX 11 = .ok (.ifCond .ne 5, 3) := by decide +kernel
theorem dX2_setX_14 : decode cX2_setX 14 = .ok (.iconst 0, 1) := by decide +kernel
theorem dX2_setX_15 : decode cX2_setX 15 = .ok (.ireturn, 1) := by decide +kernel
theorem dX2_setX_16 : decode cX2_setX 16 = .ok (.aload_n 0, 1) := by decide +kernel
theorem dX2_setX_17 : decode cX2_setX 17 = .ok (.getfield 19, 3) := by decide +kernel
theorem dX2_setX_20 : decode cX2_setX 20 = .ok (.iload_n 1, 1) := by decide +kernel
theorem dX2_setX_21 : decode cX2_setX 21 = .ok (.iload_n 2, 1) := by decide +kernel
theorem dX2_setX_22 : decode cX2_setX 22 = .ok (.iastore, 1) := by decide +kernel
theorem dX2_setX_23 : decode cX2_setX 23 = .ok (.iconst 1, 1) := by decide +kernel
theorem dX2_setX_24 : decode cX2_setX 24 = .ok (.ireturn, 1) := by decide +kernel
theorem dX2_multiplyVector_0 : decode cX2_multiplyVector 0 = .ok (.iconst 0, 1) := by decide +kernel
theorem dX2_multiplyVector_1 : decode cX2_multiplyVector 1 = .ok (.istore_n 1, 1) := by decide +kernel
theorem dX2_multiplyVector_2 : decode cX2_multiplyVector 2 = .ok (.iload_n 1, 1) := by decide +kernel
theorem dX2_multiplyVector_3 : decode cX2_multiplyVector 3 = .ok (.aload_n 0, 1) := by decide +kernel
theorem dX2_multiplyVector_4 : decode cX2_multiplyVector 4 = .ok (.getfield 29, 3) := by decide +kernel
theorem dX2_multiplyVector_7 : decode cX2_multiplyVector 7 = .ok (.if_icmp .ge 55, 3) := by decide +kernel
theorem dX2_multiplyVector_10 : decode cX2_multiplyVector 10 = .ok (.iconst 0, 1) := by decide +kernel
theorem dX2_multiplyVector_11 : decode cX2_multiplyVector 11 = .ok (.istore_n 2, 1) := by decide +kernel
theorem dX2_multiplyVector_12 : decode cX2_multiplyVector 12 = .ok (.iconst 0, 1) := by decide +kernel
theorem dX2_multiplyVector_13 : decode cX2_multiplyVector 13 = .ok (.istore_n 3, 1) := by decide +kernel
theorem dX2_multiplyVector_14 : decode cX2_multiplyVector 14 = .ok (.iload_n 3, 1) := by decide +kernel
theorem dX2_multiplyVector_15 : decode cX2_multiplyVector 15 = .ok (.aload_n 0, 1) := by decide +kernel
theorem dX2_multiplyVector_16 : decode cX2_multiplyVector 16 = .ok (.getfield 33, 3) := by decide +kernel
theorem dX2_multiplyVector_19 : decode cX2_multiplyVector 19 = .ok (.if_icmp .ge 30, 3) := by decide +kernel
theorem dX2_multiplyVector_22 : decode cX2_multiplyVector 22 = .ok (.iload_n 2, 1) := by decide +kernel
theorem dX2_multiplyVector_23 : decode cX2_multiplyVector 23 = .ok (.aload_n 0, 1) := by decide +kernel
theorem dX2_multiplyVector_24 : decode cX2_multiplyVector 24 = .ok (.getfield 7, 3) := by decide +kernel
theorem dX2_multiplyVector_27 : decode cX2_multiplyVector 27 = .ok (.bipush 60, 2) := by decide +kernel
theorem dX2_multiplyVector_29 : decode cX2_multiplyVector 29 = .ok (.iload_n 1, 1) := by decide +kernel
theorem dX2_multiplyVector_30 : decode cX2_multiplyVector 30 = .ok (.imul, 1) := by decide +kernel
theorem dX2_multiplyVector_31 : decode cX2_multiplyVector 31 = .ok (.iload_n 3, 1) := by decide +kernel
theorem dX2_multiplyVector_32 : decode cX2_multiplyVector 32 = .ok (.iadd, 1) := by decide +kernel
theorem dX2_multiplyVector_33 : decode cX2_multiplyVector 33 = .ok (.iaload, 1) := by decide +kernel
theorem dX2_multiplyVector_34 : decode cX2_multiplyVector 34 = .ok (.aload_n 0, 1) := by decide +kernel
theorem dX2_multiplyVector_35 : decode cX2_multiplyVector 35 = .ok (.getfield 19, 3) := by decide +kernel
theorem dX2_multiplyVector_38 : decode cX2_multiplyVector 38 = .ok (.iload_n 3, 1) := by decide +kernel
theorem dX2_multiplyVector_39 : decode cX2_multiplyVector 39 = .ok (.iaload, 1) := by decide +kernel
theorem dX2_multiplyVector_40 : decode cX2_multiplyVector 40 = .ok (.imul, 1) := by decide +kernel
theorem dX2_multiplyVector_41 : decode cX2_multiplyVector 41 = .ok (.iadd, 1) := by decide +kernel
theorem dX2_multiplyVector_42 : decode cX2_multiplyVector 42 = .ok (.istore_n 2, 1) := by decide +kernel
theorem dX2_multiplyVector_43 : decode cX2_multiplyVector 43 = .ok (.iinc 3 1, 3) := by decide +kernel
theorem dX2_multiplyVector_46 : decode cX2_multiplyVector 46 = .ok (.goto (-32), 3) := by decide +kernel
theorem dX2_multiplyVector_49 : decode cX2_multiplyVector 49 = .ok (.aload_n 0, 1) := by decide +kernel
theorem dX2_multiplyVector_50 : decode cX2_multiplyVector 50 = .ok (.getfield 22, 3) := by decide +kernel
theorem dX2_multiplyVector_53 : decode cX2_multiplyVector 53 = .ok (.iload_n 1, 1) := by decide +kernel
theorem dX2_multiplyVector_54 : decode cX2_multiplyVector 54 = .ok (.iload_n 2, 1) := by decide +kernel
theorem dX2_multiplyVector_55 : decode cX2_multiplyVector 55 = .ok (.iastore, 1) := by decide +kernel
theorem dX2_multiplyVector_56 : decode cX2_multiplyVector 56 = .ok (.iinc 1 1, 3) := by decide +kernel
theorem dX2_multiplyVector_59 : decode cX2_multiplyVector 59 = .ok (.goto (-57), 3) := by decide +kernel
theorem dX2_multiplyVector_62 : decode cX2_multiplyVector 62 = .ok (.iconst 1, 1) := by decide +kernel
theorem dX2_multiplyVector_63 : decode cX2_multiplyVector 63 = .ok (.ireturn, 1) := by decide +kernel
set_option maxRecDepth 20000 in
theorem ggX2_y_X2_in : GoodIn wsX2_y wsX2_in := goodIn_r _ [6] (by decide +kernel) (by decide +kernel)
set_option maxRecDepth 20000 in
theorem gX2_y_X2_in : GoodIn wsX2_y (va_wsS RX2 39 yX2_in wsX2_in) := goodIn_app (goodIn_of _ (by decide +kernel)) ggX2_y_X2_in
theorem dX2_y_0 : decode cX2_y 0 = .ok (.iload_n 1, 1) := by decide +kernel
theorem dX2_y_1 : decode cX2_y 1 = .ok (.iconst 0, 1) := by decide +kernel
theorem dX2_y_2 : decode cX2_y 2 = .ok (.aload_n 0, 1) := by decide +kernel
theorem dX2_y_3 : decode cX2_y 3 = .ok (.getfield 29, 3) := by decide +kernel
theorem dX2_y_6 : decode cX2_y 6 = .ok (.iconst 1, 1) := by decide +kernel
theorem dX2_y_7 : decode cX2_y 7 = .ok (.isub, 1) := by decide +kernel
theorem dX2_y_8 : decode cX2_y 8 = .ok (.invokestatic 39, 3) := by decide +kernel
theorem dX2_y_11 : decode cX2_y 11 = .ok (.ifCond .eq 12, 3) := by decide +kernel
theorem dX2_y_14 : decode cX2_y 14 = .ok (.aload_n 0, 1) := by decide +kernel
theorem dX2_y_15 : decode cX2_y 15 = .ok (.getfield 22, 3) := by decide +kernel
theorem dX2_y_18 : decode cX2_y 18 = .ok (.iload_n 1, 1) := by decide +kernel
theorem dX2_y_19 : decode cX2_y 19 = .ok (.iaload, 1) := by decide +kernel
theorem dX2_y_20 : decode cX2_y 20 = .ok (.goto 4, 3) := by decide +kernel
theorem dX2_y_23 : decode cX2_y 23 = .ok (.iconst 0, 1) := by decide +kernel
theorem dX2_y_24 : decode cX2_y 24 = .ok (.ireturn, 1) := by decide +kernel
set_option maxRecDepth 20000 in
theorem ggX2_transpose_X2_turns : GoodIn wsX2_transpose wsX2_turns := goodIn_r _ [12, 5, 4, 13, 14, 15, 16, 17, 18, 19, 20, 21] (by decide +kernel) (by decide +kernel)
set_option maxRecDepth 20000 in
theorem gX2_transpose_X2_turns : GoodIn wsX2_transpose (wsV RX2 54 RX2 yX2_turns wsX2_turns) := goodIn_app (goodIn_of _ (by decide +kernel)) ggX2_transpose_X2_turns
theorem dX2_transpose_0 : decode cX2_transpose 0 = .ok (.aload_n 0, 1) := by decide +kernel
theorem dX2_transpose_1 : decode cX2_transpose 1 = .ok (.getfield 47, 3) := by decide +kernel
theorem dX2_transpose_4 : decode cX2_transpose 4 = .ok (.ifCond .le 5, 3) := by decide +kernel
theorem dX2_transpose_7 : decode cX2_transpose 7 = .ok (.iconst 0, 1) := by decide +kernel
theorem dX2_transpose_8 : decode cX2_transpose 8 = .ok (.ireturn, 1) := by decide +kernel
theorem dX2_transpose_9 : decode cX2_transpose 9 = .ok (.iconst 0, 1) := by decide +kernel
theorem dX2_transpose_10 : decode cX2_transpose 10 = .ok (.istore_n 1, 1) := by decide +kernel
theorem dX2_transpose_11 : decode cX2_transpose 11 = .ok (.iload_n 1, 1) := by decide +kernel
theorem dX2_transpose_12 : decode cX2_transpose 12 = .ok (.aload_n 0, 1) := by decide +kernel
theorem dX2_transpose_13 : decode cX2_transpose 13 = .ok (.getfield 29, 3) := by decide +kernel
theorem dX2_transpose_16 : decode cX2_transpose 16 = .ok (.if_icmp .ge 47, 3) := by decide +kernel
theorem dX2_transpose_19 : decode cX2_transpose 19 = .ok (.iconst 0, 1) := by decide +kernel
theorem dX2_transpose_20 : decode cX2_transpose 20 = .ok (.istore_n 2, 1) := by decide +kernel
theorem dX2_transpose_21 : decode cX2_transpose 21 = .ok (.iload_n 2, 1) := by decide +kernel
theorem dX2_transpose_22 : decode cX2_transpose 22 = .ok (.aload_n 0, 1) := by decide +kernel
theorem dX2_transpose_23 : decode cX2_transpose 23 = .ok (.getfield 33, 3) := by decide +kernel
theorem dX2_transpose_26 : decode cX2_transpose 26 = .ok (.if_icmp .ge 31, 3) := by decide +kernel
theorem dX2_transpose_29 : decode cX2_transpose 29 = .ok (.aload_n 0, 1) := by decide +kernel
theorem dX2_transpose_30 : decode cX2_transpose 30 = .ok (.getfield 13, 3) := by decide +kernel
theorem dX2_transpose_33 : decode cX2_transpose 33 = .ok (.bipush 60, 2) := by decide +kernel
theorem dX2_transpose_35 : decode cX2_transpose 35 = .ok (.iload_n 2, 1) := by decide +kernel
theorem dX2_transpose_36 : decode cX2_transpose 36 = .ok (.imul, 1) := by decide +kernel
theorem dX2_transpose_37 : decode cX2_transpose 37 = .ok (.iload_n 1, 1) := by decide +kernel
theorem dX2_transpose_38 : decode cX2_transpose 38 = .ok (.iadd, 1) := by decide +kernel
theorem dX2_transpose_39 : decode cX2_transpose 39 = .ok (.aload_n 0, 1) := by decide +kernel
theorem dX2_transpose_40 : decode cX2_transpose 40 = .ok (.getfield 7, 3) := by decide +kernel
theorem dX2_transpose_43 : decode cX2_transpose 43 = .ok (.bipush 60, 2) := by decide +kernel
theorem dX2_transpose_45 : decode cX2_transpose 45 = .ok (.iload_n 1, 1) := by decide +kernel
theorem dX2_transpose_46 : decode cX2_transpose 46 = .ok (.imul, 1) := by decide +kernel
theorem dX2_transpose_47 : decode cX2_transpose 47 = .ok (.iload_n 2, 1) := by decide +kernel
theorem dX2_transpose_48 : decode cX2_transpose 48 = .ok (.iadd, 1) := by decide +kernel
theorem dX2_transpose_49 : decode cX2_transpose 49 = .ok (.iaload, 1) := by decide +kernel
theorem dX2_transpose_50 : decode cX2_transpose 50 = .ok (.iastore, 1) := by decide +kernel
theorem dX2_transpose_51 : decode cX2_transpose 51 = .ok (.iinc 2 1, 3) := by decide +kernel
theorem dX2_transpose_54 : decode cX2_transpose 54 = .ok (.goto (-33), 3) := by decide +kernel
theorem dX2_transpose_57 : decode cX2_transpose 57 = .ok (.iinc 1 1, 3) := by decide +kernel
theorem dX2_transpose_60 : decode cX2_transpose 60 = .ok (.goto (-49), 3) := by decide +kernel
theorem dX2_transpose_63 : decode cX2_transpose 63 = .ok (.aload_n 0, 1) := by decide +kernel
theorem dX2_transpose_64 : decode cX2_transpose 64 = .ok (.invokevirtual 54, 3) := by decide +kernel
theorem dX2_transpose_67 : decode cX2_transpose 67 = .ok (.aload_n 0, 1) := by decide +kernel
theorem dX2_transpose_68 : decode cX2_transpose 68 = .ok (.getfield 29, 3) := by decide +kernel
theorem dX2_transpose_71 : decode cX2_transpose 71 = .ok (.istore_n 1, 1) := by decide +kernel
theorem dX2_transpose_72 : decode cX2_transpose 72 = .ok (.aload_n 0, 1) := by decide +kernel
theorem dX2_transpose_73 : decode cX2_transpose 73 = .ok (.aload_n 0, 1) := by decide +kernel
theorem dX2_transpose_74 : decode cX2_transpose 74 = .ok (.getfield 33, 3) := by decide +kernel
theorem dX2_transpose_77 : decode cX2_transpose 77 = .ok (.putfield 29, 3) := by decide +kernel
theorem dX2_transpose_80 : decode cX2_transpose 80 = .ok (.aload_n 0, 1) := by decide +kernel
theorem dX2_transpose_81 : decode cX2_transpose 81 = .ok (.iload_n 1, 1) := by decide +kernel
theorem dX2_transpose_82 : decode cX2_transpose 82 = .ok (.putfield 33, 3) := by decide +kernel
theorem dX2_transpose_85 : decode cX2_transpose 85 = .ok (.iconst 0, 1) := by decide +kernel
theorem dX2_transpose_86 : decode cX2_transpose 86 = .ok (.istore_n 2, 1) := by decide +kernel
theorem dX2_transpose_87 : decode cX2_transpose 87 = .ok (.iload_n 2, 1) := by decide +kernel
theorem dX2_transpose_88 : decode cX2_transpose 88 = .ok (.bipush 60, 2) := by decide +kernel
theorem dX2_transpose_90 : decode cX2_transpose 90 = .ok (.if_icmp .ge 23, 3) := by decide +kernel
theorem dX2_transpose_93 : decode cX2_transpose 93 = .ok (.aload_n 0, 1) := by decide +kernel
theorem dX2_transpose_94 : decode cX2_transpose 94 = .ok (.getfield 19, 3) := by decide +kernel
theorem dX2_transpose_97 : decode cX2_transpose 97 = .ok (.iload_n 2, 1) := by decide +kernel
theorem dX2_transpose_98 : decode cX2_transpose 98 = .ok (.iconst 0, 1) := by decide +kernel
theorem dX2_transpose_99 : decode cX2_transpose 99 = .ok (.iastore, 1) := by decide +kernel
theorem dX2_transpose_100 : decode cX2_transpose 100 = .ok (.aload_n 0, 1) := by decide +kernel
theorem dX2_transpose_101 : decode cX2_transpose 101 = .ok (.getfield 22, 3) := by decide +kernel
theorem dX2_transpose_104 : decode cX2_transpose 104 = .ok (.iload_n 2, 1) := by decide +kernel
theorem dX2_transpose_105 : decode cX2_transpose 105 = .ok (.iconst 0, 1) := by decide +kernel
theorem dX2_transpose_106 : decode cX2_transpose 106 = .ok (.iastore, 1) := by decide +kernel
theorem dX2_transpose_107 : decode cX2_transpose 107 = .ok (.iinc 2 1, 3) := by decide +kernel
theorem dX2_transpose_110 : decode cX2_transpose 110 = .ok (.goto (-23), 3) := by decide +kernel
theorem dX2_transpose_113 : decode cX2_transpose 113 = .ok (.iconst 1, 1) := by decide +kernel
theorem dX2_transpose_114 : decode cX2_transpose 114 = .ok (.ireturn, 1) := by decide +kernel
set_option maxRecDepth 20000 in
theorem ggX2_square_X2_becomes : GoodIn wsX2_square wsX2_becomes := goodIn_r _ [9, 4, 1, 10, 11, 12, 13, 8, 14, 2, 15, 16, 17, 18, 3, 19, 20, 21, 22, 23, 24, 25, 26, 27] (by decide +kernel) (by decide +kernel)
set_option maxRecDepth 20000 in
theorem gX2_square_X2_becomes : GoodIn wsX2_square (wsV RX2 57 RX2 yX2_becomes wsX2_becomes) := goodIn_app (goodIn_of _ (by decide +kernel)) ggX2_square_X2_becomes
theorem dX2_square_0 : decode cX2_square 0 = .ok (.aload_n 0, 1) := by decide +kernel
theorem dX2_square_1 : decode cX2_square 1 = .ok (.getfield 29, 3) := by decide +kernel
theorem dX2_square_4 : decode cX2_square 4 = .ok (.aload_n 0, 1) := by decide +kernel
theorem dX2_square_5 : decode cX2_square 5 = .ok (.getfield 33, 3) := by decide +kernel
theorem dX2_square_8 : decode cX2_square 8 = .ok (.if_icmp .eq 6, 3) := by decide +kernel
theorem dX2_square_11 : decode cX2_square 11 = .ok (.bipush (-2), 2) := by decide +kernel
theorem dX2_square_13 : decode cX2_square 13 = .ok (.ireturn, 1) := by decide +kernel
theorem dX2_square_14 : decode cX2_square 14 = .ok (.iconst 0, 1) := by decide +kernel
theorem dX2_square_15 : decode cX2_square 15 = .ok (.istore_n 1, 1) := by decide +kernel
theorem dX2_square_16 : decode cX2_square 16 = .ok (.iload_n 1, 1) := by decide +kernel
theorem dX2_square_17 : decode cX2_square 17 = .ok (.aload_n 0, 1) := by decide +kernel
theorem dX2_square_18 : decode cX2_square 18 = .ok (.getfield 29, 3) := by decide +kernel
theorem dX2_square_21 : decode cX2_square 21 = .ok (.if_icmp .ge 85, 3) := by decide +kernel
theorem dX2_square_24 : decode cX2_square 24 = .ok (.iconst 0, 1) := by decide +kernel
theorem dX2_square_25 : decode cX2_square 25 = .ok (.istore_n 2, 1) := by decide +kernel
theorem dX2_square_26 : decode cX2_square 26 = .ok (.iload_n 2, 1) := by decide +kernel
theorem dX2_square_27 : decode cX2_square 27 = .ok (.aload_n 0, 1) := by decide +kernel
theorem dX2_square_28 : decode cX2_square 28 = .ok (.getfield 33, 3) := by decide +kernel
theorem dX2_square_31 : decode cX2_square 31 = .ok (.if_icmp .ge 69, 3) := by decide +kernel
theorem dX2_square_34 : decode cX2_square 34 = .ok (.iconst 0, 1) := by decide +kernel
theorem dX2_square_35 : decode cX2_square 35 = .ok (.istore_n 3, 1) := by decide +kernel
theorem dX2_square_36 : decode cX2_square 36 = .ok (.iconst 0, 1) := by decide +kernel
theorem dX2_square_37 : decode cX2_square 37 = .ok (.istore 4, 2) := by decide +kernel
theorem dX2_square_39 : decode cX2_square 39 = .ok (.iload 4, 2) := by decide +kernel
theorem dX2_square_41 : decode cX2_square 41 = .ok (.aload_n 0, 1) := by decide +kernel
theorem dX2_square_42 : decode cX2_square 42 = .ok (.getfield 33, 3) := by decide +kernel
theorem dX2_square_45 : decode cX2_square 45 = .ok (.if_icmp .ge 37, 3) := by decide +kernel
theorem dX2_square_48 : decode cX2_square 48 = .ok (.iload_n 3, 1) := by decide +kernel
theorem dX2_square_49 : decode cX2_square 49 = .ok (.aload_n 0, 1) := by decide +kernel
theorem dX2_square_50 : decode cX2_square 50 = .ok (.getfield 7, 3) := by decide +kernel
theorem dX2_square_53 : decode cX2_square 53 = .ok (.bipush 60, 2) := by decide +kernel
theorem dX2_square_55 : decode cX2_square 55 = .ok (.iload_n 1, 1) := by decide +kernel
theorem dX2_square_56 : decode cX2_square 56 = .ok (.imul, 1) := by decide +kernel
theorem dX2_square_57 : decode cX2_square 57 = .ok (.iload 4, 2) := by decide +kernel
theorem dX2_square_59 : decode cX2_square 59 = .ok (.iadd, 1) := by decide +kernel
theorem dX2_square_60 : decode cX2_square 60 = .ok (.iaload, 1) := by decide +kernel
theorem dX2_square_61 : decode cX2_square 61 = .ok (.aload_n 0, 1) := by decide +kernel
theorem dX2_square_62 : decode cX2_square 62 = .ok (.getfield 7, 3) := by decide +kernel
theorem dX2_square_65 : decode cX2_square 65 = .ok (.bipush 60, 2) := by decide +kernel
theorem dX2_square_67 : decode cX2_square 67 = .ok (.iload 4, 2) := by decide +kernel
theorem dX2_square_69 : decode cX2_square 69 = .ok (.imul, 1) := by decide +kernel
theorem dX2_square_70 : decode cX2_square 70 = .ok (.iload_n 2, 1) := by decide +kernel
theorem dX2_square_71 : decode cX2_square 71 = .ok (.iadd, 1) := by decide +kernel
theorem dX2_square_72 : decode cX2_square 72 = .ok (.iaload, 1) := by decide +kernel
theorem dX2_square_73 : decode cX2_square 73 = .ok (.imul, 1) := by decide +kernel
theorem dX2_square_74 : decode cX2_square 74 = .ok (.iadd, 1) := by decide +kernel
theorem dX2_square_75 : decode cX2_square 75 = .ok (.istore_n 3, 1) := by decide +kernel
theorem dX2_square_76 : decode cX2_square 76 = .ok (.iinc 4 1, 3) := by decide +kernel
theorem dX2_square_79 : decode cX2_square 79 = .ok (.goto (-40), 3) := by decide +kernel
theorem dX2_square_82 : decode cX2_square 82 = .ok (.aload_n 0, 1) := by decide +kernel
theorem dX2_square_83 : decode cX2_square 83 = .ok (.getfield 13, 3) := by decide +kernel
theorem dX2_square_86 : decode cX2_square 86 = .ok (.bipush 60, 2) := by decide +kernel
theorem dX2_square_88 : decode cX2_square 88 = .ok (.iload_n 1, 1) := by decide +kernel
theorem dX2_square_89 : decode cX2_square 89 = .ok (.imul, 1) := by decide +kernel
theorem dX2_square_90 : decode cX2_square 90 = .ok (.iload_n 2, 1) := by decide +kernel
theorem dX2_square_91 : decode cX2_square 91 = .ok (.iadd, 1) := by decide +kernel
theorem dX2_square_92 : decode cX2_square 92 = .ok (.iload_n 3, 1) := by decide +kernel
theorem dX2_square_93 : decode cX2_square 93 = .ok (.iastore, 1) := by decide +kernel
theorem dX2_square_94 : decode cX2_square 94 = .ok (.iinc 2 1, 3) := by decide +kernel
theorem dX2_square_97 : decode cX2_square 97 = .ok (.goto (-71), 3) := by decide +kernel
theorem dX2_square_100 : decode cX2_square 100 = .ok (.iinc 1 1, 3) := by decide +kernel
theorem dX2_square_103 : decode cX2_square 103 = .ok (.goto (-87), 3) := by decide +kernel
theorem dX2_square_106 : decode cX2_square 106 = .ok (.aload_n 0, 1) := by decide +kernel
theorem dX2_square_107 : decode cX2_square 107 = .ok (.invokevirtual 57, 3) := by decide +kernel
theorem dX2_square_110 : decode cX2_square 110 = .ok (.ireturn, 1) := by decide +kernel
theorem dX2_count_0 : decode cX2_count 0 = .ok (.iload_n 1, 1) := by decide +kernel
theorem dX2_count_1 : decode cX2_count 1 = .ok (.ifCond .ne 10, 3) := by decide +kernel
theorem dX2_count_4 : decode cX2_count 4 = .ok (.aload_n 0, 1) := by decide +kernel
theorem dX2_count_5 : decode cX2_count 5 = .ok (.getfield 29, 3) := by decide +kernel
theorem dX2_count_8 : decode cX2_count 8 = .ok (.goto 40, 3) := by decide +kernel
theorem dX2_count_11 : decode cX2_count 11 = .ok (.iload_n 1, 1) := by decide +kernel
theorem dX2_count_12 : decode cX2_count 12 = .ok (.iconst 1, 1) := by decide +kernel
theorem dX2_count_13 : decode cX2_count 13 = .ok (.if_icmp .ne 10, 3) := by decide +kernel
theorem dX2_count_16 : decode cX2_count 16 = .ok (.aload_n 0, 1) := by decide +kernel
theorem dX2_count_17 : decode cX2_count 17 = .ok (.getfield 33, 3) := by decide +kernel
theorem dX2_count_20 : decode cX2_count 20 = .ok (.goto 28, 3) := by decide +kernel
theorem dX2_count_23 : decode cX2_count 23 = .ok (.iload_n 1, 1) := by decide +kernel
theorem dX2_count_24 : decode cX2_count 24 = .ok (.iconst 2, 1) := by decide +kernel
theorem dX2_count_25 : decode cX2_count 25 = .ok (.if_icmp .ne 10, 3) := by decide +kernel
theorem dX2_count_28 : decode cX2_count 28 = .ok (.aload_n 0, 1) := by decide +kernel
theorem dX2_count_29 : decode cX2_count 29 = .ok (.getfield 36, 3) := by decide +kernel
theorem dX2_count_32 : decode cX2_count 32 = .ok (.goto 16, 3) := by decide +kernel
theorem dX2_count_35 : decode cX2_count 35 = .ok (.iload_n 1, 1) := by decide +kernel
theorem dX2_count_36 : decode cX2_count 36 = .ok (.iconst 3, 1) := by decide +kernel
theorem dX2_count_37 : decode cX2_count 37 = .ok (.if_icmp .ne 10, 3) := by decide +kernel
theorem dX2_count_40 : decode cX2_count 40 = .ok (.aload_n 0, 1) := by decide +kernel
theorem dX2_count_41 : decode cX2_count 41 = .ok (.getfield 47, 3) := by decide +kernel
theorem dX2_count_44 : decode cX2_count 44 = .ok (.goto 4, 3) := by decide +kernel
theorem dX2_count_47 : decode cX2_count 47 = .ok (.iconst (-1), 1) := by decide +kernel
theorem dX2_count_48 : decode cX2_count 48 = .ok (.ireturn, 1) := by decide +kernel
theorem dJ9_max_7cf53_0 : decode cJ9_max_7cf53 0 = .ok (.iload_n 0, 1) := by decide +kernel
theorem dJ9_max_7cf53_1 : decode cJ9_max_7cf53 1 = .ok (.iload_n 1, 1) := by decide +kernel
theorem dJ9_max_7cf53_2 : decode cJ9_max_7cf53 2 = .ok (.if_icmp .lt 7, 3) := by decide +kernel
theorem dJ9_max_7cf53_5 : decode cJ9_max_7cf53 5 = .ok (.iload_n 0, 1) := by decide +kernel
theorem dJ9_max_7cf53_6 : decode cJ9_max_7cf53 6 = .ok (.goto 4, 3) := by decide +kernel
theorem dJ9_max_7cf53_9 : decode cJ9_max_7cf53 9 = .ok (.iload_n 1, 1) := by decide +kernel
theorem dJ9_max_7cf53_10 : decode cJ9_max_7cf53 10 = .ok (.ireturn, 1) := by decide +kernel
theorem dJ9_min_7cf53_0 : decode cJ9_min_7cf53 0 = .ok (.iload_n 0, 1) := by decide +kernel
theorem dJ9_min_7cf53_1 : decode cJ9_min_7cf53 1 = .ok (.iload_n 1, 1) := by decide +kernel
theorem dJ9_min_7cf53_2 : decode cJ9_min_7cf53 2 = .ok (.if_icmp .gt 7, 3) := by decide +kernel
theorem dJ9_min_7cf53_5 : decode cJ9_min_7cf53 5 = .ok (.iload_n 0, 1) := by decide +kernel
theorem dJ9_min_7cf53_6 : decode cJ9_min_7cf53 6 = .ok (.goto 4, 3) := by decide +kernel
theorem dJ9_min_7cf53_9 : decode cJ9_min_7cf53 9 = .ok (.iload_n 1, 1) := by decide +kernel
theorem dJ9_min_7cf53_10 : decode cJ9_min_7cf53 10 = .ok (.ireturn, 1) := by decide +kernel
theorem dJ7_fill_53178_0 : decode cJ7_fill_53178 0 = .ok (.iconst 0, 1) := by decide +kernel
theorem dJ7_fill_53178_1 : decode cJ7_fill_53178 1 = .ok (.istore_n 2, 1) := by decide +kernel
theorem dJ7_fill_53178_2 : decode cJ7_fill_53178 2 = .ok (.aload_n 0, 1) := by decide +kernel
theorem dJ7_fill_53178_3 : decode cJ7_fill_53178 3 = .ok (.arraylength, 1) := by decide +kernel
theorem dJ7_fill_53178_4 : decode cJ7_fill_53178 4 = .ok (.istore_n 3, 1) := by decide +kernel
theorem dJ7_fill_53178_5 : decode cJ7_fill_53178 5 = .ok (.iload_n 2, 1) := by decide +kernel
theorem dJ7_fill_53178_6 : decode cJ7_fill_53178 6 = .ok (.iload_n 3, 1) := by decide +kernel
theorem dJ7_fill_53178_7 : decode cJ7_fill_53178 7 = .ok (.if_icmp .ge 13, 3) := by decide +kernel
theorem dJ7_fill_53178_10 : decode cJ7_fill_53178 10 = .ok (.aload_n 0, 1) := by decide +kernel
theorem dJ7_fill_53178_11 : decode cJ7_fill_53178 11 = .ok (.iload_n 2, 1) := by decide +kernel
theorem dJ7_fill_53178_12 : decode cJ7_fill_53178 12 = .ok (.iload_n 1, 1) := by decide +kernel
theorem dJ7_fill_53178_13 : decode cJ7_fill_53178 13 = .ok (.iastore, 1) := by decide +kernel
theorem dJ7_fill_53178_14 : decode cJ7_fill_53178 14 = .ok (.iinc 2 1, 3) := by decide +kernel
theorem dJ7_fill_53178_17 : decode cJ7_fill_53178 17 = .ok (.goto (-12), 3) := by decide +kernel
theorem dJ7_fill_53178_20 : decode cJ7_fill_53178 20 = .ok (.return_, 1) := by decide +kernel
theorem dL_cell_0 : decode cL_cell 0 = .ok (.iload_n 1, 1) := by decide +kernel
theorem dL_cell_1 : decode cL_cell 1 = .ok (.aload_n 0, 1) := by decide +kernel
theorem dL_cell_2 : decode cL_cell 2 = .ok (.arraylength, 1) := by decide +kernel
theorem dL_cell_3 : decode cL_cell 3 = .ok (.if_icmp .ge 9, 3) := by decide +kernel
theorem dL_cell_6 : decode cL_cell 6 = .ok (.aload_n 0, 1) := by decide +kernel
theorem dL_cell_7 : decode cL_cell 7 = .ok (.iload_n 1, 1) := by decide +kernel
theorem dL_cell_8 : decode cL_cell 8 = .ok (.iaload, 1) := by decide +kernel
theorem dL_cell_9 : decode cL_cell 9 = .ok (.goto 4, 3) := by decide +kernel
theorem dL_cell_12 : decode cL_cell 12 = .ok (.iconst 0, 1) := by decide +kernel
theorem dL_cell_13 : decode cL_cell 13 = .ok (.ireturn, 1) := by decide +kernel
set_option maxRecDepth 20000 in
theorem ggL_law_L_cell : GoodIn wsL_law wsL_cell := goodIn_r _ [9] (by decide +kernel) (by decide +kernel)
set_option maxRecDepth 20000 in
theorem gL_law_L_cell : GoodIn wsL_law (va_wsS RL 9 yL_cell wsL_cell) := goodIn_app (goodIn_of _ (by decide +kernel)) ggL_law_L_cell
set_option maxRecDepth 20000 in
theorem ggL_law_X1_init : GoodIn wsL_law wsX1_init := goodIn_r _ [12, 13, 14, 15, 16, 17, 18, 19, 20, 21, 22, 23, 24, 25, 26, 27, 28, 29, 30, 31, 32, 33, 34, 35, 36, 37, 2, 38, 39, 40, 41, 42, 43, 44, 45, 46, 47, 48, 228, 229, 230, 231, 232, 233, 234, 235, 236, 237, 238, 239, 249, 250, 251] (by decide +kernel) (by decide +kernel)
set_option maxRecDepth 20000 in
theorem gL_law_X1_init : GoodIn wsL_law (wsX1_init) := ggL_law_X1_init
set_option maxRecDepth 20000 in
theorem ggL_law_X2_init : GoodIn wsL_law wsX2_init := goodIn_r _ [51, 52, 14, 15, 28, 53, 54, 55, 56, 57, 58, 59, 60, 61, 62, 5, 63, 240, 241, 242, 243, 244, 245, 246, 247, 248] (by decide +kernel) (by decide +kernel)
set_option maxRecDepth 20000 in
theorem gL_law_X2_init : GoodIn wsL_law (wsX2_init) := ggL_law_X2_init
set_option maxRecDepth 20000 in
theorem ggL_law_X1_add : GoodIn wsL_law wsX1_add := goodIn_r _ [67, 32, 18, 29, 30, 31, 68, 69, 70, 2, 71, 16, 17, 72, 73, 74, 228, 229, 230, 231, 232, 233, 234, 235, 236, 237, 238, 239] (by decide +kernel) (by decide +kernel)
set_option maxRecDepth 20000 in
theorem gL_law_X1_add : GoodIn wsL_law (wsV RL 21 RX1 yX1_add wsX1_add) := goodIn_app (goodIn_of _ (by decide +kernel)) ggL_law_X1_add
set_option maxRecDepth 20000 in
theorem ggL_law_X2_add : GoodIn wsL_law wsX2_add := goodIn_r _ [78, 79, 60, 55, 80, 81, 82, 5, 83, 58, 59, 84, 85, 86, 240, 241, 242, 243, 244, 245, 246, 247, 248] (by decide +kernel) (by decide +kernel)
set_option maxRecDepth 20000 in
theorem gL_law_X2_add : GoodIn wsL_law (wsV RL 25 RX2 yX2_add wsX2_add) := goodIn_app (goodIn_of _ (by decide +kernel)) ggL_law_X2_add
set_option maxRecDepth 20000 in
theorem ggL_law_X1_build : GoodIn wsL_law wsX1_build := goodIn_r _ [90, 16, 35, 26, 27, 32, 91, 92, 93, 94, 95, 96, 97, 25, 98, 46, 47, 48, 99, 100, 101, 2, 102, 29, 30, 31, 103, 104, 105, 106, 107, 108, 109, 110, 111, 112, 113, 114, 228, 229, 230, 231, 232, 233, 234, 235, 236, 237, 238, 239, 249, 250, 251] (by decide +kernel) (by decide +kernel)
set_option maxRecDepth 20000 in
theorem gL_law_X1_build : GoodIn wsL_law (wsV RL 26 RX1 yX1_build wsX1_build) := goodIn_app (goodIn_of _ (by decide +kernel)) ggL_law_X1_build
set_option maxRecDepth 20000 in
theorem ggL_law_X2_build : GoodIn wsL_law wsX2_build := goodIn_r _ [118, 58, 59, 54, 53, 55, 79, 119, 120, 121, 5, 122, 60, 123, 124, 125, 126, 127, 128, 129, 130, 240, 241, 242, 243, 244, 245, 246, 247, 248] (by decide +kernel) (by decide +kernel)
set_option maxRecDepth 20000 in
theorem gL_law_X2_build : GoodIn wsL_law (wsV RL 30 RX2 yX2_build wsX2_build) := goodIn_app (goodIn_of _ (by decide +kernel)) ggL_law_X2_build
set_option maxRecDepth 20000 in
theorem ggL_law_X1_nnz : GoodIn wsL_law wsX1_nnz := goodIn_r _ [134, 26, 16, 111, 112, 113, 25, 114, 46, 228, 229, 230, 231, 232, 233, 234, 235, 236, 237, 238, 239, 249, 250, 251] (by decide +kernel) (by decide +kernel)
set_option maxRecDepth 20000 in
theorem gL_law_X1_nnz : GoodIn wsL_law (wsV RL 31 RX1 yX1_nnz wsX1_nnz) := goodIn_app (goodIn_of _ (by decide +kernel)) ggL_law_X1_nnz
set_option maxRecDepth 20000 in
theorem ggL_law_X2_nnz : GoodIn wsL_law wsX2_nnz := goodIn_r _ [138, 53, 58, 123, 124, 125, 5, 126, 59, 240, 241, 242, 243, 244, 245, 246, 247, 248] (by decide +kernel) (by decide +kernel)
set_option maxRecDepth 20000 in
theorem gL_law_X2_nnz : GoodIn wsL_law (wsV RL 34 RX2 yX2_nnz wsX2_nnz) := goodIn_app (goodIn_of _ (by decide +kernel)) ggL_law_X2_nnz
set_option maxRecDepth 20000 in
theorem ggL_law_X1_at : GoodIn wsL_law wsX1_at := goodIn_r _ [142, 26, 68, 69, 70, 2, 71, 16, 17, 72, 73, 74, 143, 144, 145, 25, 146, 46, 47, 48, 228, 229, 230, 231, 232, 233, 234, 235, 236, 237, 238, 239, 249, 250, 251] (by decide +kernel) (by decide +kernel)
set_option maxRecDepth 20000 in
theorem gL_law_X1_at : GoodIn wsL_law (wsV RL 35 RX1 yX1_at wsX1_at) := goodIn_app (goodIn_of _ (by decide +kernel)) ggL_law_X1_at
set_option maxRecDepth 20000 in
theorem ggL_law_X2_at : GoodIn wsL_law wsX2_at := goodIn_r _ [150, 53, 80, 81, 82, 5, 83, 58, 59, 84, 85, 86, 240, 241, 242, 243, 244, 245, 246, 247, 248] (by decide +kernel) (by decide +kernel)
set_option maxRecDepth 20000 in
theorem gL_law_X2_at : GoodIn wsL_law (wsV RL 39 RX2 yX2_at wsX2_at) := goodIn_app (goodIn_of _ (by decide +kernel)) ggL_law_X2_at
set_option maxRecDepth 20000 in
theorem ggL_law_X1_rowStart : GoodIn wsL_law wsX1_rowStart := goodIn_r _ [154, 16, 26, 111, 112, 113, 25, 114, 46, 228, 229, 230, 231, 232, 233, 234, 235, 236, 237, 238, 239, 249, 250, 251] (by decide +kernel) (by decide +kernel)
set_option maxRecDepth 20000 in
theorem gL_law_X1_rowStart : GoodIn wsL_law (wsV RL 40 RX1 yX1_rowStart wsX1_rowStart) := goodIn_app (goodIn_of _ (by decide +kernel)) ggL_law_X1_rowStart
set_option maxRecDepth 20000 in
theorem ggL_law_X2_rowStart : GoodIn wsL_law wsX2_rowStart := goodIn_r _ [158, 58, 53, 84, 85, 5, 86, 123, 124, 125, 126, 59, 240, 241, 242, 243, 244, 245, 246, 247, 248] (by decide +kernel) (by decide +kernel)
set_option maxRecDepth 20000 in
theorem gL_law_X2_rowStart : GoodIn wsL_law (wsV RL 44 RX2 yX2_rowStart wsX2_rowStart) := goodIn_app (goodIn_of _ (by decide +kernel)) ggL_law_X2_rowStart
set_option maxRecDepth 20000 in
theorem ggL_law_X1_colAt : GoodIn wsL_law wsX1_colAt := goodIn_r _ [162, 26, 16, 111, 112, 113, 25, 114, 46, 163, 164, 165, 166, 47, 228, 229, 230, 231, 232, 233, 234, 235, 236, 237, 238, 239, 249, 250, 251] (by decide +kernel) (by decide +kernel)
set_option maxRecDepth 20000 in
theorem gL_law_X1_colAt : GoodIn wsL_law (wsV RL 45 RX1 yX1_colAt wsX1_colAt) := goodIn_app (goodIn_of _ (by decide +kernel)) ggL_law_X1_colAt
set_option maxRecDepth 20000 in
theorem ggL_law_X2_colAt : GoodIn wsL_law wsX2_colAt := goodIn_r _ [170, 58, 59, 53, 240, 241, 242, 243, 244, 245, 246, 247, 248] (by decide +kernel) (by decide +kernel)
set_option maxRecDepth 20000 in
theorem gL_law_X2_colAt : GoodIn wsL_law (wsV RL 48 RX2 yX2_colAt wsX2_colAt) := goodIn_app (goodIn_of _ (by decide +kernel)) ggL_law_X2_colAt
set_option maxRecDepth 20000 in
theorem ggL_law_X1_setX : GoodIn wsL_law wsX1_setX := goodIn_r _ [174, 17, 33, 72, 73, 2, 74, 228, 229, 230, 231, 232, 233, 234, 235, 236, 237, 238, 239] (by decide +kernel) (by decide +kernel)
set_option maxRecDepth 20000 in
theorem gL_law_X1_setX : GoodIn wsL_law (wsV RL 49 RX1 yX1_setX wsX1_setX) := goodIn_app (goodIn_of _ (by decide +kernel)) ggL_law_X1_setX
set_option maxRecDepth 20000 in
theorem ggL_law_X2_setX : GoodIn wsL_law wsX2_setX := goodIn_r _ [178, 59, 56, 84, 85, 5, 86, 240, 241, 242, 243, 244, 245, 246, 247, 248] (by decide +kernel) (by decide +kernel)
set_option maxRecDepth 20000 in
theorem gL_law_X2_setX : GoodIn wsL_law (wsV RL 53 RX2 yX2_setX wsX2_setX) := goodIn_app (goodIn_of _ (by decide +kernel)) ggL_law_X2_setX
set_option maxRecDepth 20000 in
theorem ggL_law_X1_multiplyVector : GoodIn wsL_law wsX1_multiplyVector := goodIn_r _ [182, 16, 34, 26, 33, 183, 184, 185, 25, 186, 46, 48, 47, 228, 229, 230, 231, 232, 233, 234, 235, 236, 237, 238, 239, 249, 250, 251] (by decide +kernel) (by decide +kernel)
set_option maxRecDepth 20000 in
theorem gL_law_X1_multiplyVector : GoodIn wsL_law (wsV RL 54 RX1 yX1_multiplyVector wsX1_multiplyVector) := goodIn_app (goodIn_of _ (by decide +kernel)) ggL_law_X1_multiplyVector
set_option maxRecDepth 20000 in
theorem ggL_law_X2_multiplyVector : GoodIn wsL_law wsX2_multiplyVector := goodIn_r _ [190, 58, 59, 53, 56, 57, 240, 241, 242, 243, 244, 245, 246, 247, 248] (by decide +kernel) (by decide +kernel)
set_option maxRecDepth 20000 in
theorem gL_law_X2_multiplyVector : GoodIn wsL_law (wsV RL 58 RX2 yX2_multiplyVector wsX2_multiplyVector) := goodIn_app (goodIn_of _ (by decide +kernel)) ggL_law_X2_multiplyVector
set_option maxRecDepth 20000 in
theorem ggL_law_X1_y : GoodIn wsL_law wsX1_y := goodIn_r _ [194, 16, 34, 72, 73, 2, 74, 228, 229, 230, 231, 232, 233, 234, 235, 236, 237, 238, 239] (by decide +kernel) (by decide +kernel)
set_option maxRecDepth 20000 in
theorem gL_law_X1_y : GoodIn wsL_law (wsV RL 59 RX1 yX1_y wsX1_y) := goodIn_app (goodIn_of _ (by decide +kernel)) ggL_law_X1_y
set_option maxRecDepth 20000 in
theorem ggL_law_X2_y : GoodIn wsL_law wsX2_y := goodIn_r _ [198, 58, 57, 84, 85, 5, 86, 240, 241, 242, 243, 244, 245, 246, 247, 248] (by decide +kernel) (by decide +kernel)
set_option maxRecDepth 20000 in
theorem gL_law_X2_y : GoodIn wsL_law (wsV RL 62 RX2 yX2_y wsX2_y) := goodIn_app (goodIn_of _ (by decide +kernel)) ggL_law_X2_y
set_option maxRecDepth 20000 in
theorem ggL_law_X1_transpose : GoodIn wsL_law wsX1_transpose := goodIn_r _ [202, 32, 17, 35, 16, 26, 27, 33, 34, 91, 92, 93, 94, 143, 144, 145, 25, 146, 46, 47, 48, 103, 104, 105, 106, 107, 108, 109, 2, 110, 228, 229, 230, 231, 232, 233, 234, 235, 236, 237, 238, 239, 249, 250, 251] (by decide +kernel) (by decide +kernel)
set_option maxRecDepth 20000 in
theorem gL_law_X1_transpose : GoodIn wsL_law (wsV RL 63 RX1 yX1_transpose wsX1_transpose) := goodIn_app (goodIn_of _ (by decide +kernel)) ggL_law_X1_transpose
set_option maxRecDepth 20000 in
theorem ggL_law_X2_transpose : GoodIn wsL_law wsX2_transpose := goodIn_r _ [206, 79, 58, 59, 54, 53, 56, 57, 127, 128, 129, 5, 130, 240, 241, 242, 243, 244, 245, 246, 247, 248] (by decide +kernel) (by decide +kernel)
set_option maxRecDepth 20000 in
theorem gL_law_X2_transpose : GoodIn wsL_law (wsV RL 66 RX2 yX2_transpose wsX2_transpose) := goodIn_app (goodIn_of _ (by decide +kernel)) ggL_law_X2_transpose
set_option maxRecDepth 20000 in
theorem ggL_law_X1_square : GoodIn wsL_law wsX1_square := goodIn_r _ [210, 16, 17, 35, 26, 27, 91, 92, 93, 94, 211, 212, 213, 25, 214, 46, 47, 48, 215, 96, 97, 98, 103, 104, 105, 106, 107, 108, 109, 2, 110, 111, 112, 113, 114, 228, 229, 230, 231, 232, 233, 234, 235, 236, 237, 238, 239, 249, 250, 251] (by decide +kernel) (by decide +kernel)
set_option maxRecDepth 20000 in
theorem gL_law_X1_square : GoodIn wsL_law (wsV RL 67 RX1 yX1_square wsX1_square) := goodIn_app (goodIn_of _ (by decide +kernel)) ggL_law_X1_square
set_option maxRecDepth 20000 in
theorem ggL_law_X2_square : GoodIn wsL_law wsX2_square := goodIn_r _ [219, 58, 59, 53, 54, 119, 120, 121, 5, 122, 60, 123, 124, 125, 126, 127, 128, 129, 130, 240, 241, 242, 243, 244, 245, 246, 247, 248] (by decide +kernel) (by decide +kernel)
set_option maxRecDepth 20000 in
theorem gL_law_X2_square : GoodIn wsL_law (wsV RL 70 RX2 yX2_square wsX2_square) := goodIn_app (goodIn_of _ (by decide +kernel)) ggL_law_X2_square
set_option maxRecDepth 20000 in
theorem ggL_law_X1_count : GoodIn wsL_law wsX1_count := goodIn_r _ [223, 16, 17, 18, 32, 228, 229, 230, 231, 232, 233, 234, 235, 236, 237, 238, 239] (by decide +kernel) (by decide +kernel)
set_option maxRecDepth 20000 in
theorem gL_law_X1_count : GoodIn wsL_law (wsV RL 71 RX1 yX1_count wsX1_count) := goodIn_app (goodIn_of _ (by decide +kernel)) ggL_law_X1_count
set_option maxRecDepth 20000 in
theorem ggL_law_X2_count : GoodIn wsL_law wsX2_count := goodIn_r _ [227, 58, 59, 60, 79, 240, 241, 242, 243, 244, 245, 246, 247, 248] (by decide +kernel) (by decide +kernel)
set_option maxRecDepth 20000 in
theorem gL_law_X2_count : GoodIn wsL_law (wsV RL 74 RX2 yX2_count wsX2_count) := goodIn_app (goodIn_of _ (by decide +kernel)) ggL_law_X2_count
theorem dL_law_0 : decode cL_law 0 = .ok (.new 7, 3) := by decide +kernel
theorem dL_law_3 : decode cL_law 3 = .ok (.dup, 1) := by decide +kernel
theorem dL_law_4 : decode cL_law 4 = .ok (.aload_n 0, 1) := by decide +kernel
theorem dL_law_5 : decode cL_law 5 = .ok (.iconst 0, 1) := by decide +kernel
theorem dL_law_6 : decode cL_law 6 = .ok (.invokestatic 9, 3) := by decide +kernel
theorem dL_law_9 : decode cL_law 9 = .ok (.aload_n 0, 1) := by decide +kernel
theorem dL_law_10 : decode cL_law 10 = .ok (.iconst 1, 1) := by decide +kernel
theorem dL_law_11 : decode cL_law 11 = .ok (.invokestatic 9, 3) := by decide +kernel
theorem dL_law_14 : decode cL_law 14 = .ok (.aload_n 0, 1) := by decide +kernel
theorem dL_law_15 : decode cL_law 15 = .ok (.iconst 2, 1) := by decide +kernel
theorem dL_law_16 : decode cL_law 16 = .ok (.invokestatic 9, 3) := by decide +kernel
theorem dL_law_19 : decode cL_law 19 = .ok (.invokespecial 15, 3) := by decide +kernel
theorem dL_law_22 : decode cL_law 22 = .ok (.astore_n 1, 1) := by decide +kernel
theorem dL_law_23 : decode cL_law 23 = .ok (.new 18, 3) := by decide +kernel
theorem dL_law_26 : decode cL_law 26 = .ok (.dup, 1) := by decide +kernel
theorem dL_law_27 : decode cL_law 27 = .ok (.aload_n 0, 1) := by decide +kernel
theorem dL_law_28 : decode cL_law 28 = .ok (.iconst 0, 1) := by decide +kernel
theorem dL_law_29 : decode cL_law 29 = .ok (.invokestatic 9, 3) := by decide +kernel
theorem dL_law_32 : decode cL_law 32 = .ok (.aload_n 0, 1) := by decide +kernel
theorem dL_law_33 : decode cL_law 33 = .ok (.iconst 1, 1) := by decide +kernel
theorem dL_law_34 : decode cL_law 34 = .ok (.invokestatic 9, 3) := by decide +kernel
theorem dL_law_37 : decode cL_law 37 = .ok (.aload_n 0, 1) := by decide +kernel
theorem dL_law_38 : decode cL_law 38 = .ok (.iconst 2, 1) := by decide +kernel
theorem dL_law_39 : decode cL_law 39 = .ok (.invokestatic 9, 3) := by decide +kernel
theorem dL_law_42 : decode cL_law 42 = .ok (.invokespecial 20, 3) := by decide +kernel
theorem dL_law_45 : decode cL_law 45 = .ok (.astore_n 2, 1) := by decide +kernel
theorem dL_law_46 : decode cL_law 46 = .ok (.iconst 3, 1) := by decide +kernel
theorem dL_law_47 : decode cL_law 47 = .ok (.istore_n 3, 1) := by decide +kernel
theorem dL_law_48 : decode cL_law 48 = .ok (.iload_n 3, 1) := by decide +kernel
theorem dL_law_49 : decode cL_law 49 = .ok (.aload_n 0, 1) := by decide +kernel
theorem dL_law_50 : decode cL_law 50 = .ok (.arraylength, 1) := by decide +kernel
theorem dL_law_51 : decode cL_law 51 = .ok (.iconst 4, 1) := by decide +kernel
theorem dL_law_52 : decode cL_law 52 = .ok (.isub, 1) := by decide +kernel
theorem dL_law_53 : decode cL_law 53 = .ok (.if_icmp .gt 343, 3) := by decide +kernel
theorem dL_law_56 : decode cL_law 56 = .ok (.aload_n 0, 1) := by decide +kernel
theorem dL_law_57 : decode cL_law 57 = .ok (.iload_n 3, 1) := by decide +kernel
theorem dL_law_58 : decode cL_law 58 = .ok (.iaload, 1) := by decide +kernel
theorem dL_law_59 : decode cL_law 59 = .ok (.bipush 15, 2) := by decide +kernel
theorem dL_law_61 : decode cL_law 61 = .ok (.iand, 1) := by decide +kernel
theorem dL_law_62 : decode cL_law 62 = .ok (.tableswitch 328 0 11 #[62, 105, 118, 131, 164, 187, 210, 243, 256, 279, 292, 305], 62) := by decide +kernel
theorem dL_law_124 : decode cL_law 124 = .ok (.aload_n 1, 1) := by decide +kernel
theorem dL_law_125 : decode cL_law 125 = .ok (.aload_n 0, 1) := by decide +kernel
theorem dL_law_126 : decode cL_law 126 = .ok (.iload_n 3, 1) := by decide +kernel
theorem dL_law_127 : decode cL_law 127 = .ok (.iconst 1, 1) := by decide +kernel
theorem dL_law_128 : decode cL_law 128 = .ok (.iadd, 1) := by decide +kernel
theorem dL_law_129 : decode cL_law 129 = .ok (.iaload, 1) := by decide +kernel
theorem dL_law_130 : decode cL_law 130 = .ok (.aload_n 0, 1) := by decide +kernel
theorem dL_law_131 : decode cL_law 131 = .ok (.iload_n 3, 1) := by decide +kernel
theorem dL_law_132 : decode cL_law 132 = .ok (.iconst 2, 1) := by decide +kernel
theorem dL_law_133 : decode cL_law 133 = .ok (.iadd, 1) := by decide +kernel
theorem dL_law_134 : decode cL_law 134 = .ok (.iaload, 1) := by decide +kernel
theorem dL_law_135 : decode cL_law 135 = .ok (.aload_n 0, 1) := by decide +kernel
theorem dL_law_136 : decode cL_law 136 = .ok (.iload_n 3, 1) := by decide +kernel
theorem dL_law_137 : decode cL_law 137 = .ok (.iconst 3, 1) := by decide +kernel
theorem dL_law_138 : decode cL_law 138 = .ok (.iadd, 1) := by decide +kernel
theorem dL_law_139 : decode cL_law 139 = .ok (.iaload, 1) := by decide +kernel
theorem dL_law_140 : decode cL_law 140 = .ok (.invokevirtual 21, 3) := by decide +kernel
theorem dL_law_143 : decode cL_law 143 = .ok (.aload_n 2, 1) := by decide +kernel
theorem dL_law_144 : decode cL_law 144 = .ok (.aload_n 0, 1) := by decide +kernel
theorem dL_law_145 : decode cL_law 145 = .ok (.iload_n 3, 1) := by decide +kernel
theorem dL_law_146 : decode cL_law 146 = .ok (.iconst 1, 1) := by decide +kernel
theorem dL_law_147 : decode cL_law 147 = .ok (.iadd, 1) := by decide +kernel
theorem dL_law_148 : decode cL_law 148 = .ok (.iaload, 1) := by decide +kernel
theorem dL_law_149 : decode cL_law 149 = .ok (.aload_n 0, 1) := by decide +kernel
theorem dL_law_150 : decode cL_law 150 = .ok (.iload_n 3, 1) := by decide +kernel
theorem dL_law_151 : decode cL_law 151 = .ok (.iconst 2, 1) := by decide +kernel
theorem dL_law_152 : decode cL_law 152 = .ok (.iadd, 1) := by decide +kernel
theorem dL_law_153 : decode cL_law 153 = .ok (.iaload, 1) := by decide +kernel
theorem dL_law_154 : decode cL_law 154 = .ok (.aload_n 0, 1) := by decide +kernel
theorem dL_law_155 : decode cL_law 155 = .ok (.iload_n 3, 1) := by decide +kernel
theorem dL_law_156 : decode cL_law 156 = .ok (.iconst 3, 1) := by decide +kernel
theorem dL_law_157 : decode cL_law 157 = .ok (.iadd, 1) := by decide +kernel
theorem dL_law_158 : decode cL_law 158 = .ok (.iaload, 1) := by decide +kernel
theorem dL_law_159 : decode cL_law 159 = .ok (.invokevirtual 25, 3) := by decide +kernel
theorem dL_law_162 : decode cL_law 162 = .ok (.if_icmp .eq 228, 3) := by decide +kernel
theorem dL_law_165 : decode cL_law 165 = .ok (.iconst 0, 1) := by decide +kernel
theorem dL_law_166 : decode cL_law 166 = .ok (.ireturn, 1) := by decide +kernel
theorem dL_law_167 : decode cL_law 167 = .ok (.aload_n 1, 1) := by decide +kernel
theorem dL_law_168 : decode cL_law 168 = .ok (.invokevirtual 26, 3) := by decide +kernel
theorem dL_law_171 : decode cL_law 171 = .ok (.aload_n 2, 1) := by decide +kernel
theorem dL_law_172 : decode cL_law 172 = .ok (.invokevirtual 30, 3) := by decide +kernel
theorem dL_law_175 : decode cL_law 175 = .ok (.if_icmp .eq 215, 3) := by decide +kernel
theorem dL_law_178 : decode cL_law 178 = .ok (.iconst 0, 1) := by decide +kernel
theorem dL_law_179 : decode cL_law 179 = .ok (.ireturn, 1) := by decide +kernel
theorem dL_law_180 : decode cL_law 180 = .ok (.aload_n 1, 1) := by decide +kernel
theorem dL_law_181 : decode cL_law 181 = .ok (.invokevirtual 31, 3) := by decide +kernel
theorem dL_law_184 : decode cL_law 184 = .ok (.aload_n 2, 1) := by decide +kernel
theorem dL_law_185 : decode cL_law 185 = .ok (.invokevirtual 34, 3) := by decide +kernel
theorem dL_law_188 : decode cL_law 188 = .ok (.if_icmp .eq 202, 3) := by decide +kernel
theorem dL_law_191 : decode cL_law 191 = .ok (.iconst 0, 1) := by decide +kernel
theorem dL_law_192 : decode cL_law 192 = .ok (.ireturn, 1) := by decide +kernel
theorem dL_law_193 : decode cL_law 193 = .ok (.aload_n 1, 1) := by decide +kernel
theorem dL_law_194 : decode cL_law 194 = .ok (.aload_n 0, 1) := by decide +kernel
theorem dL_law_195 : decode cL_law 195 = .ok (.iload_n 3, 1) := by decide +kernel
theorem dL_law_196 : decode cL_law 196 = .ok (.iconst 1, 1) := by decide +kernel
theorem dL_law_197 : decode cL_law 197 = .ok (.iadd, 1) := by decide +kernel
theorem dL_law_198 : decode cL_law 198 = .ok (.iaload, 1) := by decide +kernel
theorem dL_law_199 : decode cL_law 199 = .ok (.aload_n 0, 1) := by decide +kernel
theorem dL_law_200 : decode cL_law 200 = .ok (.iload_n 3, 1) := by decide +kernel
theorem dL_law_201 : decode cL_law 201 = .ok (.iconst 2, 1) := by decide +kernel
theorem dL_law_202 : decode cL_law 202 = .ok (.iadd, 1) := by decide +kernel
theorem dL_law_203 : decode cL_law 203 = .ok (.iaload, 1) := by decide +kernel
theorem dL_law_204 : decode cL_law 204 = .ok (.invokevirtual 35, 3) := by decide +kernel
theorem dL_law_207 : decode cL_law 207 = .ok (.aload_n 2, 1) := by decide +kernel
theorem dL_law_208 : decode cL_law 208 = .ok (.aload_n 0, 1) := by decide +kernel
theorem dL_law_209 : decode cL_law 209 = .ok (.iload_n 3, 1) := by decide +kernel
theorem dL_law_210 : decode cL_law 210 = .ok (.iconst 1, 1) := by decide +kernel
theorem dL_law_211 : decode cL_law 211 = .ok (.iadd, 1) := by decide +kernel
theorem dL_law_212 : decode cL_law 212 = .ok (.iaload, 1) := by decide +kernel
theorem dL_law_213 : decode cL_law 213 = .ok (.aload_n 0, 1) := by decide +kernel
theorem dL_law_214 : decode cL_law 214 = .ok (.iload_n 3, 1) := by decide +kernel
theorem dL_law_215 : decode cL_law 215 = .ok (.iconst 2, 1) := by decide +kernel
theorem dL_law_216 : decode cL_law 216 = .ok (.iadd, 1) := by decide +kernel
theorem dL_law_217 : decode cL_law 217 = .ok (.iaload, 1) := by decide +kernel
theorem dL_law_218 : decode cL_law 218 = .ok (.invokevirtual 39, 3) := by decide +kernel
theorem dL_law_221 : decode cL_law 221 = .ok (.if_icmp .eq 169, 3) := by decide +kernel
theorem dL_law_224 : decode cL_law 224 = .ok (.iconst 0, 1) := by decide +kernel
theorem dL_law_225 : decode cL_law 225 = .ok (.ireturn, 1) := by decide +kernel
theorem dL_law_226 : decode cL_law 226 = .ok (.aload_n 1, 1) := by decide +kernel
theorem dL_law_227 : decode cL_law 227 = .ok (.aload_n 0, 1) := by decide +kernel
theorem dL_law_228 : decode cL_law 228 = .ok (.iload_n 3, 1) := by decide +kernel
theorem dL_law_229 : decode cL_law 229 = .ok (.iconst 1, 1) := by decide +kernel
theorem dL_law_230 : decode cL_law 230 = .ok (.iadd, 1) := by decide +kernel
theorem dL_law_231 : decode cL_law 231 = .ok (.iaload, 1) := by decide +kernel
theorem dL_law_232 : decode cL_law 232 = .ok (.invokevirtual 40, 3) := by decide +kernel
theorem dL_law_235 : decode cL_law 235 = .ok (.aload_n 2, 1) := by decide +kernel
theorem dL_law_236 : decode cL_law 236 = .ok (.aload_n 0, 1) := by decide +kernel
theorem dL_law_237 : decode cL_law 237 = .ok (.iload_n 3, 1) := by decide +kernel
theorem dL_law_238 : decode cL_law 238 = .ok (.iconst 1, 1) := by decide +kernel
theorem dL_law_239 : decode cL_law 239 = .ok (.iadd, 1) := by decide +kernel
theorem dL_law_240 : decode cL_law 240 = .ok (.iaload, 1) := by decide +kernel
theorem dL_law_241 : decode cL_law 241 = .ok (.invokevirtual 44, 3) := by decide +kernel
theorem dL_law_244 : decode cL_law 244 = .ok (.if_icmp .eq 146, 3) := by decide +kernel
theorem dL_law_247 : decode cL_law 247 = .ok (.iconst 0, 1) := by decide +kernel
theorem dL_law_248 : decode cL_law 248 = .ok (.ireturn, 1) := by decide +kernel
theorem dL_law_249 : decode cL_law 249 = .ok (.aload_n 1, 1) := by decide +kernel
theorem dL_law_250 : decode cL_law 250 = .ok (.aload_n 0, 1) := by decide +kernel
theorem dL_law_251 : decode cL_law 251 = .ok (.iload_n 3, 1) := by decide +kernel
theorem dL_law_252 : decode cL_law 252 = .ok (.iconst 1, 1) := by decide +kernel
theorem dL_law_253 : decode cL_law 253 = .ok (.iadd, 1) := by decide +kernel
theorem dL_law_254 : decode cL_law 254 = .ok (.iaload, 1) := by decide +kernel
theorem dL_law_255 : decode cL_law 255 = .ok (.invokevirtual 45, 3) := by decide +kernel
theorem dL_law_258 : decode cL_law 258 = .ok (.aload_n 2, 1) := by decide +kernel
theorem dL_law_259 : decode cL_law 259 = .ok (.aload_n 0, 1) := by decide +kernel
theorem dL_law_260 : decode cL_law 260 = .ok (.iload_n 3, 1) := by decide +kernel
theorem dL_law_261 : decode cL_law 261 = .ok (.iconst 1, 1) := by decide +kernel
theorem dL_law_262 : decode cL_law 262 = .ok (.iadd, 1) := by decide +kernel
theorem dL_law_263 : decode cL_law 263 = .ok (.iaload, 1) := by decide +kernel
theorem dL_law_264 : decode cL_law 264 = .ok (.invokevirtual 48, 3) := by decide +kernel
theorem dL_law_267 : decode cL_law 267 = .ok (.if_icmp .eq 123, 3) := by decide +kernel
theorem dL_law_270 : decode cL_law 270 = .ok (.iconst 0, 1) := by decide +kernel
theorem dL_law_271 : decode cL_law 271 = .ok (.ireturn, 1) := by decide +kernel
theorem dL_law_272 : decode cL_law 272 = .ok (.aload_n 1, 1) := by decide +kernel
theorem dL_law_273 : decode cL_law 273 = .ok (.aload_n 0, 1) := by decide +kernel
theorem dL_law_274 : decode cL_law 274 = .ok (.iload_n 3, 1) := by decide +kernel
theorem dL_law_275 : decode cL_law 275 = .ok (.iconst 1, 1) := by decide +kernel
theorem dL_law_276 : decode cL_law 276 = .ok (.iadd, 1) := by decide +kernel
theorem dL_law_277 : decode cL_law 277 = .ok (.iaload, 1) := by decide +kernel
theorem dL_law_278 : decode cL_law 278 = .ok (.aload_n 0, 1) := by decide +kernel
theorem dL_law_279 : decode cL_law 279 = .ok (.iload_n 3, 1) := by decide +kernel
theorem dL_law_280 : decode cL_law 280 = .ok (.iconst 2, 1) := by decide +kernel
theorem dL_law_281 : decode cL_law 281 = .ok (.iadd, 1) := by decide +kernel
theorem dL_law_282 : decode cL_law 282 = .ok (.iaload, 1) := by decide +kernel
theorem dL_law_283 : decode cL_law 283 = .ok (.invokevirtual 49, 3) := by decide +kernel
theorem dL_law_286 : decode cL_law 286 = .ok (.aload_n 2, 1) := by decide +kernel
theorem dL_law_287 : decode cL_law 287 = .ok (.aload_n 0, 1) := by decide +kernel
theorem dL_law_288 : decode cL_law 288 = .ok (.iload_n 3, 1) := by decide +kernel
theorem dL_law_289 : decode cL_law 289 = .ok (.iconst 1, 1) := by decide +kernel
theorem dL_law_290 : decode cL_law 290 = .ok (.iadd, 1) := by decide +kernel
theorem dL_law_291 : decode cL_law 291 = .ok (.iaload, 1) := by decide +kernel
theorem dL_law_292 : decode cL_law 292 = .ok (.aload_n 0, 1) := by decide +kernel
theorem dL_law_293 : decode cL_law 293 = .ok (.iload_n 3, 1) := by decide +kernel
theorem dL_law_294 : decode cL_law 294 = .ok (.iconst 2, 1) := by decide +kernel
theorem dL_law_295 : decode cL_law 295 = .ok (.iadd, 1) := by decide +kernel
theorem dL_law_296 : decode cL_law 296 = .ok (.iaload, 1) := by decide +kernel
theorem dL_law_297 : decode cL_law 297 = .ok (.invokevirtual 53, 3) := by decide +kernel
theorem dL_law_300 : decode cL_law 300 = .ok (.if_icmp .eq 90, 3) := by decide +kernel
theorem dL_law_303 : decode cL_law 303 = .ok (.iconst 0, 1) := by decide +kernel
theorem dL_law_304 : decode cL_law 304 = .ok (.ireturn, 1) := by decide +kernel
theorem dL_law_305 : decode cL_law 305 = .ok (.aload_n 1, 1) := by decide +kernel
theorem dL_law_306 : decode cL_law 306 = .ok (.invokevirtual 54, 3) := by decide +kernel
theorem dL_law_309 : decode cL_law 309 = .ok (.aload_n 2, 1) := by decide +kernel
theorem dL_law_310 : decode cL_law 310 = .ok (.invokevirtual 58, 3) := by decide +kernel
theorem dL_law_313 : decode cL_law 313 = .ok (.if_icmp .eq 77, 3) := by decide +kernel
theorem dL_law_316 : decode cL_law 316 = .ok (.iconst 0, 1) := by decide +kernel
theorem dL_law_317 : decode cL_law 317 = .ok (.ireturn, 1) := by decide +kernel
theorem dL_law_318 : decode cL_law 318 = .ok (.aload_n 1, 1) := by decide +kernel
theorem dL_law_319 : decode cL_law 319 = .ok (.aload_n 0, 1) := by decide +kernel
theorem dL_law_320 : decode cL_law 320 = .ok (.iload_n 3, 1) := by decide +kernel
theorem dL_law_321 : decode cL_law 321 = .ok (.iconst 1, 1) := by decide +kernel
theorem dL_law_322 : decode cL_law 322 = .ok (.iadd, 1) := by decide +kernel
theorem dL_law_323 : decode cL_law 323 = .ok (.iaload, 1) := by decide +kernel
theorem dL_law_324 : decode cL_law 324 = .ok (.invokevirtual 59, 3) := by decide +kernel
theorem dL_law_327 : decode cL_law 327 = .ok (.aload_n 2, 1) := by decide +kernel
theorem dL_law_328 : decode cL_law 328 = .ok (.aload_n 0, 1) := by decide +kernel
theorem dL_law_329 : decode cL_law 329 = .ok (.iload_n 3, 1) := by decide +kernel
theorem dL_law_330 : decode cL_law 330 = .ok (.iconst 1, 1) := by decide +kernel
theorem dL_law_331 : decode cL_law 331 = .ok (.iadd, 1) := by decide +kernel
theorem dL_law_332 : decode cL_law 332 = .ok (.iaload, 1) := by decide +kernel
theorem dL_law_333 : decode cL_law 333 = .ok (.invokevirtual 62, 3) := by decide +kernel
theorem dL_law_336 : decode cL_law 336 = .ok (.if_icmp .eq 54, 3) := by decide +kernel
theorem dL_law_339 : decode cL_law 339 = .ok (.iconst 0, 1) := by decide +kernel
theorem dL_law_340 : decode cL_law 340 = .ok (.ireturn, 1) := by decide +kernel
theorem dL_law_341 : decode cL_law 341 = .ok (.aload_n 1, 1) := by decide +kernel
theorem dL_law_342 : decode cL_law 342 = .ok (.invokevirtual 63, 3) := by decide +kernel
theorem dL_law_345 : decode cL_law 345 = .ok (.aload_n 2, 1) := by decide +kernel
theorem dL_law_346 : decode cL_law 346 = .ok (.invokevirtual 66, 3) := by decide +kernel
theorem dL_law_349 : decode cL_law 349 = .ok (.if_icmp .eq 41, 3) := by decide +kernel
theorem dL_law_352 : decode cL_law 352 = .ok (.iconst 0, 1) := by decide +kernel
theorem dL_law_353 : decode cL_law 353 = .ok (.ireturn, 1) := by decide +kernel
theorem dL_law_354 : decode cL_law 354 = .ok (.aload_n 1, 1) := by decide +kernel
theorem dL_law_355 : decode cL_law 355 = .ok (.invokevirtual 67, 3) := by decide +kernel
theorem dL_law_358 : decode cL_law 358 = .ok (.aload_n 2, 1) := by decide +kernel
theorem dL_law_359 : decode cL_law 359 = .ok (.invokevirtual 70, 3) := by decide +kernel
theorem dL_law_362 : decode cL_law 362 = .ok (.if_icmp .eq 28, 3) := by decide +kernel
theorem dL_law_365 : decode cL_law 365 = .ok (.iconst 0, 1) := by decide +kernel
theorem dL_law_366 : decode cL_law 366 = .ok (.ireturn, 1) := by decide +kernel
theorem dL_law_367 : decode cL_law 367 = .ok (.aload_n 1, 1) := by decide +kernel
theorem dL_law_368 : decode cL_law 368 = .ok (.aload_n 0, 1) := by decide +kernel
theorem dL_law_369 : decode cL_law 369 = .ok (.iload_n 3, 1) := by decide +kernel
theorem dL_law_370 : decode cL_law 370 = .ok (.iconst 1, 1) := by decide +kernel
theorem dL_law_371 : decode cL_law 371 = .ok (.iadd, 1) := by decide +kernel
theorem dL_law_372 : decode cL_law 372 = .ok (.iaload, 1) := by decide +kernel
theorem dL_law_373 : decode cL_law 373 = .ok (.invokevirtual 71, 3) := by decide +kernel
theorem dL_law_376 : decode cL_law 376 = .ok (.aload_n 2, 1) := by decide +kernel
theorem dL_law_377 : decode cL_law 377 = .ok (.aload_n 0, 1) := by decide +kernel
theorem dL_law_378 : decode cL_law 378 = .ok (.iload_n 3, 1) := by decide +kernel
theorem dL_law_379 : decode cL_law 379 = .ok (.iconst 1, 1) := by decide +kernel
theorem dL_law_380 : decode cL_law 380 = .ok (.iadd, 1) := by decide +kernel
theorem dL_law_381 : decode cL_law 381 = .ok (.iaload, 1) := by decide +kernel
theorem dL_law_382 : decode cL_law 382 = .ok (.invokevirtual 74, 3) := by decide +kernel
theorem dL_law_385 : decode cL_law 385 = .ok (.if_icmp .eq 5, 3) := by decide +kernel
theorem dL_law_388 : decode cL_law 388 = .ok (.iconst 0, 1) := by decide +kernel
theorem dL_law_389 : decode cL_law 389 = .ok (.ireturn, 1) := by decide +kernel
theorem dL_law_390 : decode cL_law 390 = .ok (.iinc 3 4, 3) := by decide +kernel
theorem dL_law_393 : decode cL_law 393 = .ok (.goto (-345), 3) := by decide +kernel
theorem dL_law_396 : decode cL_law 396 = .ok (.iconst 1, 1) := by decide +kernel
theorem dL_law_397 : decode cL_law 397 = .ok (.ireturn, 1) := by decide +kernel
abbrev vwCl : List vw_C := [(RX0, TX0, 3), (RX1, TX1, 12), (RX2, TX2, 9)]
end
section
/-! own rows over the kit: standard contracts (read-only, int, void), their beginnings, their calls -/
abbrev rm_0 : Room := { frames := 0, cells := 0, slots := 0, locals := 0 }
abbrev rm_1 : Room := { frames := 1, cells := 0, slots := 0, locals := 40 }
abbrev rm_2 : Room := { frames := 2, cells := 0, slots := 0, locals := 80 }
def MetR (l : Launch) (y : MethodName) (wsY : List Cond) (rm : Room) (D : va_G) (tys : List (ClassId × FieldType)) (As : List Value) (WS : va_W) (post : Int32 → Prop) : Prop :=
  Met l y wsY rm (va_Pc As (fun U => va_P D vwCl WS U.heap ∧ va_K D vwCl tys U)) (vp_Si post) 0 0 (fun _ => False)
def MetI {S : Type} (l : Launch) (y : MethodName) (wsY : List Cond) (rm : Room) (D : va_G) (tys : List (ClassId × FieldType)) (As : List Value) (WS : va_W) (post : Int32 → S → Prop) (w1 : S → va_W) (mc ms : Nat) : Prop :=
  ∀ sz : Nat, Met l y wsY rm (va_Pc As (fun U => U.heap.size = sz ∧ va_P D vwCl WS U.heap ∧ va_K D vwCl tys U ∧ va_D (fun _ => True) WS)) (va_Qi post (fun u t => va_P D vwCl (w1 u) t.heap ∧ va_K D vwCl tys t ∧ va_D (va_A WS sz) (w1 u)) (va_A WS sz)) mc ms (va_A WS sz)
def MetV {S : Type} (l : Launch) (y : MethodName) (wsY : List Cond) (rm : Room) (D : va_G) (tys : List (ClassId × FieldType)) (As : List Value) (WS : va_W) (post : S → Prop) (w1 : S → va_W) (mc ms : Nat) : Prop :=
  ∀ sz : Nat, Met l y wsY rm (va_Pc As (fun U => U.heap.size = sz ∧ va_P D vwCl WS U.heap ∧ va_K D vwCl tys U ∧ va_D (fun _ => True) WS)) (va_Qv post (fun u t => va_P D vwCl (w1 u) t.heap ∧ va_K D vwCl tys t ∧ va_D (va_A WS sz) (w1 u)) (va_A WS sz)) mc ms (va_A WS sz)
section RSA
variable {p : Program} {l : Launch} {e : Env} {R : Room} {s : State} {m : MethodId} {args : Array Value} {below : List Frame} {meth : Method} {c : Code} {H : Heap} {locs : List Loc} {cells slots : Nat} {Q : State → Prop}
variable {cc : ByteArray} {pc : Nat} {ls : Array Slot} {rest : List Value} {D : va_G} {tys : List (ClassId × FieldType)} {ws : va_W} {A : Nat → Prop} {H0 : Heap}
theorem rv_top {x y : Int32} (h : x = y) (kk : W p l e R s m args below meth c H locs cells slots Q (F0 m pc ls (.int y :: rest))) : W p l e R s m args below meth c H locs cells slots Q (F0 m pc ls (.int x :: rest)) := h ▸ kk
theorem rv_iadd (hx : p.tables.exec = Jvm.exec) (hb : c.code = cc) {a b : Nat} (hdg : decode cc pc = .ok (.iadd, 1)) (kk : W p l e R s m args below meth c H locs cells slots Q (F0 m (pc + 1) ls (.int (nI (a + b)) :: rest))) : W p l e R s m args below meth c H locs cells slots Q (F0 m pc ls (.int (nI b) :: .int (nI a) :: rest)) := lv_iadd hx hb hdg (rv_top (nI_add a b) kk)
theorem rv_imul (hx : p.tables.exec = Jvm.exec) (hb : c.code = cc) {a b : Nat} (hdg : decode cc pc = .ok (.imul, 1)) (kk : W p l e R s m args below meth c H locs cells slots Q (F0 m (pc + 1) ls (.int (nI (a * b)) :: rest))) : W p l e R s m args below meth c H locs cells slots Q (F0 m pc ls (.int (nI b) :: .int (nI a) :: rest)) := lv_imul hx hb hdg (rv_top (pk_mul a b) kk)
theorem rv_isub (hx : p.tables.exec = Jvm.exec) (hb : c.code = cc) {a b : Nat} (h : b ≤ a) (hdg : decode cc pc = .ok (.isub, 1)) (kk : W p l e R s m args below meth c H locs cells slots Q (F0 m (pc + 1) ls (.int (nI (a - b)) :: rest))) : W p l e R s m args below meth c H locs cells slots Q (F0 m pc ls (.int (nI b) :: .int (nI a) :: rest)) := lv_isub hx hb hdg (rv_top (pk_sub h) kk)
theorem rv_inc (a : Nat) : nI a + Int32.ofInt 1 = nI (a + 1) := nI_1 a
theorem rv_inc4 (a : Nat) : nI a + Int32.ofInt 4 = nI (a + 4) := nI_add a 4
theorem rv_ge_t (hx : p.tables.exec = Jvm.exec) (hb : c.code = cc) {a b : Nat} {off : Int} {tgt : Nat} (hdg : decode cc pc = .ok (.if_icmp .ge off, 3)) (ht : (pc : Int) + off = (tgt : Int)) (h : b ≤ a) (h2 : a < 2 ^ 31) (kt : W p l e R s m args below meth c H locs cells slots Q (F0 m tgt ls rest)) : W p l e R s m args below meth c H locs cells slots Q (F0 m pc ls (.int (nI b) :: .int (nI a) :: rest)) := lv_icmp_ge hx hb hdg ht (fun _ => kt) (fun q => absurd (nI_le h h2) q)
theorem rv_ge_f (hx : p.tables.exec = Jvm.exec) (hb : c.code = cc) {a b : Nat} {off : Int} {tgt : Nat} (hdg : decode cc pc = .ok (.if_icmp .ge off, 3)) (ht : (pc : Int) + off = (tgt : Int)) (h : a < b) (h2 : b < 2 ^ 31) (kf : W p l e R s m args below meth c H locs cells slots Q (F0 m (pc + 3) ls rest)) : W p l e R s m args below meth c H locs cells slots Q (F0 m pc ls (.int (nI b) :: .int (nI a) :: rest)) := lv_icmp_ge hx hb hdg ht (fun q => absurd q (nI_ge h h2)) (fun _ => kf)
theorem rv_ge (hx : p.tables.exec = Jvm.exec) (hb : c.code = cc) {a b : Nat} {off : Int} {tgt : Nat} (hdg : decode cc pc = .ok (.if_icmp .ge off, 3)) (ht : (pc : Int) + off = (tgt : Int)) (h1 : a < 2 ^ 31) (h2 : b < 2 ^ 31) (kt : b ≤ a → W p l e R s m args below meth c H locs cells slots Q (F0 m tgt ls rest)) (kf : a < b → W p l e R s m args below meth c H locs cells slots Q (F0 m (pc + 3) ls rest)) : W p l e R s m args below meth c H locs cells slots Q (F0 m pc ls (.int (nI b) :: .int (nI a) :: rest)) := lv_icmp_ge hx hb hdg ht (fun q => kt ((nI_leI h2 h1).mp q)) (fun q => kf (Nat.not_le.mp fun z => q ((nI_leI h2 h1).mpr z)))
theorem rv_lt (hx : p.tables.exec = Jvm.exec) (hb : c.code = cc) {a b : Nat} {off : Int} {tgt : Nat} (hdg : decode cc pc = .ok (.if_icmp .lt off, 3)) (ht : (pc : Int) + off = (tgt : Int)) (h1 : a < 2 ^ 31) (h2 : b < 2 ^ 31) (kt : a < b → W p l e R s m args below meth c H locs cells slots Q (F0 m tgt ls rest)) (kf : b ≤ a → W p l e R s m args below meth c H locs cells slots Q (F0 m (pc + 3) ls rest)) : W p l e R s m args below meth c H locs cells slots Q (F0 m pc ls (.int (nI b) :: .int (nI a) :: rest)) := lv_icmp_lt hx hb hdg ht (fun q => kt ((nI_ltI h1 h2).mp q)) (fun q => kf (Nat.not_lt.mp fun z => q ((nI_ltI h1 h2).mpr z)))
theorem rv_le (hx : p.tables.exec = Jvm.exec) (hb : c.code = cc) {a b : Nat} {off : Int} {tgt : Nat} (hdg : decode cc pc = .ok (.if_icmp .le off, 3)) (ht : (pc : Int) + off = (tgt : Int)) (h1 : a < 2 ^ 31) (h2 : b < 2 ^ 31) (kt : a ≤ b → W p l e R s m args below meth c H locs cells slots Q (F0 m tgt ls rest)) (kf : b < a → W p l e R s m args below meth c H locs cells slots Q (F0 m (pc + 3) ls rest)) : W p l e R s m args below meth c H locs cells slots Q (F0 m pc ls (.int (nI b) :: .int (nI a) :: rest)) := lv_icmp_le hx hb hdg ht (fun q => kt ((nI_leI h1 h2).mp q)) (fun q => kf (Nat.not_le.mp fun z => q ((nI_leI h1 h2).mpr z)))
theorem rv_ne (hx : p.tables.exec = Jvm.exec) (hb : c.code = cc) {a b : Nat} {off : Int} {tgt : Nat} (hdg : decode cc pc = .ok (.if_icmp .ne off, 3)) (ht : (pc : Int) + off = (tgt : Int)) (h1 : a < 2 ^ 31) (h2 : b < 2 ^ 31) (kt : ¬ a = b → W p l e R s m args below meth c H locs cells slots Q (F0 m tgt ls rest)) (kf : a = b → W p l e R s m args below meth c H locs cells slots Q (F0 m (pc + 3) ls rest)) : W p l e R s m args below meth c H locs cells slots Q (F0 m pc ls (.int (nI b) :: .int (nI a) :: rest)) := lv_icmp_ne hx hb hdg ht (fun q => kt (fun z => q ((nI_eq h1 h2).mpr z))) (fun q => kf ((nI_eq h1 h2).mp (by first | exact q | exact Decidable.not_not.mp q)))
theorem rv_eq (hx : p.tables.exec = Jvm.exec) (hb : c.code = cc) {a b : Nat} {off : Int} {tgt : Nat} (hdg : decode cc pc = .ok (.if_icmp .eq off, 3)) (ht : (pc : Int) + off = (tgt : Int)) (h1 : a < 2 ^ 31) (h2 : b < 2 ^ 31) (kt : a = b → W p l e R s m args below meth c H locs cells slots Q (F0 m tgt ls rest)) (kf : ¬ a = b → W p l e R s m args below meth c H locs cells slots Q (F0 m (pc + 3) ls rest)) : W p l e R s m args below meth c H locs cells slots Q (F0 m pc ls (.int (nI b) :: .int (nI a) :: rest)) := lv_icmp_eq hx hb hdg ht (fun q => kt ((nI_eq h1 h2).mp q)) (fun q => kf (fun z => q ((nI_eq h1 h2).mpr z)))
theorem rv_iald (hx : p.tables.exec = Jvm.exec) (hb : c.code = cc) (hK : va_K D vwCl tys s) (hP : va_P D vwCl ws H) (q0 : Nat) {a : Nat} {cA : ClassId} {n : Nat} {f : Nat → Int32} (ha : ws[q0]? = some (a, .inl (cA, n, .inl f))) (ht : tys[0]? = some (cA, .int)) {j : Nat} (hj : j < n) (hn : n < 2 ^ 31) (hdg : decode cc pc = .ok (.iaload, 1))
    (kk : W p l e R s m args below meth c H locs cells slots Q (F0 m (pc + 1) ls (.int (f j) :: rest))) : W p l e R s m args below meth c H locs cells slots Q (F0 m pc ls (.int (nI j) :: .ref a :: rest)) :=
  va_iald hx hb hK hP q0 0 ha ht (vp_in_nI hj hn) hdg (by rw [nI_clamp (Nat.lt_trans hj hn)]; exact kk)
theorem rv_iast (hx : p.tables.exec = Jvm.exec) (hb : c.code = cc) (hK : va_K D vwCl tys s) (hP : va_P D vwCl ws H) (hD : va_D A ws) (hS : va_S A H0 H locs) (q0 : Nat) {a : Nat} {cA : ClassId} {n : Nat} {f : Nat → Int32} (ha : ws[q0]? = some (a, .inl (cA, n, .inl f))) (ht : tys[0]? = some (cA, .int)) {j : Nat} {x : Int32} (hj : j < n) (hn : n < 2 ^ 31) (hdg : decode cc pc = .ok (.iastore, 1))
    (kk : ∀ (H1 : Heap) (locs1 : List Loc), va_P D vwCl (ws.set q0 (a, .inl (cA, n, .inl (upd f j x)))) H1 → va_D A (ws.set q0 (a, .inl (cA, n, .inl (upd f j x)))) → va_S A H0 H1 locs1 → W p l e R s m args below meth c H1 locs1 cells slots Q (F0 m (pc + 1) ls rest)) : W p l e R s m args below meth c H locs cells slots Q (F0 m pc ls (.int x :: .int (nI j) :: .ref a :: rest)) := by
  refine va_iast hx hb hK hP hD hS q0 0 ha ht (vp_in_nI hj hn) hdg ?_
  rw [nI_clamp (Nat.lt_trans hj hn)]
  exact kk
/-- the beginning of a read-only contract -/
theorem rs_R {y : MethodName} {wsY wsY' : List Cond} {rm : Room} {As : List Value} {post : Int32 → Prop} {maxL : Nat} {rty : FieldType} {WS : va_W}
    (hy : plainName y.cls = true) (hw : wsY = Cond.code y cc maxL (some rty) :: wsY') (hlen : (lg_sl As).length ≤ maxL)
    (body : ∀ (p : Program) (e : Env) (s : State) (m : MethodId) (args : Array Value) (below : List Frame) (meth : Method) (c : Code) (Q : State → Prop) (ls : Array Slot),
      p.tables.exec = Jvm.exec → c.code = cc → c.maxLocals = maxL → s.vm.findClass y.cls = some m.cls → (∀ w ∈ wsY, w.before args s = true) → va_P D vwCl WS s.heap → va_K D vwCl tys s → lv_has ls maxL (lv_args 0 As) →
      (∀ (pc : Nat) (ls : Array Slot) (v : Int32), decode cc pc = .ok (.ireturn, 1) → narrow rty (.int v) = .int v → post v → W p l e rm s m args below meth c s.heap [] 0 0 Q (F0 m pc ls [.int v])) →
      W p l e rm s m args below meth c s.heap [] 0 0 Q (F0 m 0 ls [])) : MetR l y wsY rm D tys As WS post := by
  refine Met.ofW (cc := cc) (maxL := maxL) (ret := some rty) hy hw ?_
  intro p e s m args below meth c s₁ B hml hv
  obtain ⟨rfl, hP, hK⟩ := hv
  have hts := atoms_spec (ws := wsY) B.pre
  have hlocks := B.notSynchronized
  have hl := lv_entry As (n := maxL) hlen
  rw [lg_entry_eq]
  generalize (lg_sl As ++ List.replicate (maxL - (lg_sl As).length) Slot.unset).toArray = ls at hl ⊢
  exact body p e s m _ below meth c _ ls B.exec B.bytes hml (findClass_of_methodNamed B.named) hts hP hK hl (fun pc ls v hd hn hp => W.zret B.exec B.bytes B.returns hn (fun t ht hW => ⟨v, rfl, hp, ht⟩) (fun q hq => absurd hq List.not_mem_nil) hd)
/-- the beginning of a contract with an int (or boolean) answer that may write -/
theorem rs_I {S : Type} {y : MethodName} {wsY wsY' : List Cond} {rm : Room} {As : List Value} {post : Int32 → S → Prop} {w1 : S → va_W} {mc ms maxL : Nat} {rty : FieldType} {WS : va_W}
    (hy : plainName y.cls = true) (hw : wsY = Cond.code y cc maxL (some rty) :: wsY') (hlen : (lg_sl As).length ≤ maxL)
    (body : ∀ (p : Program) (e : Env) (s : State) (m : MethodId) (args : Array Value) (below : List Frame) (meth : Method) (c : Code) (Q : State → Prop) (A : Nat → Prop) (ls : Array Slot),
      p.tables.exec = Jvm.exec → c.code = cc → c.maxLocals = maxL → s.vm.findClass y.cls = some m.cls → (∀ w ∈ wsY, w.before args s = true) → va_P D vwCl WS s.heap → va_K D vwCl tys s → va_D A WS → va_S A s.heap s.heap [] → (∀ q : Nat, s.heap.size ≤ q → A q) → lv_has ls maxL (lv_args 0 As) →
      (∀ (H : Heap) (locs : List Loc) (pc : Nat) (ls : Array Slot) (v : Int32) (u : S), decode cc pc = .ok (.ireturn, 1) → narrow rty (.int v) = .int v → post v u → va_P D vwCl (w1 u) H → va_D A (w1 u) → va_S A s.heap H locs → W p l e rm s m args below meth c H locs mc ms Q (F0 m pc ls [.int v])) →
      W p l e rm s m args below meth c s.heap [] 0 0 Q (F0 m 0 ls [])) : MetI l y wsY rm D tys As WS post w1 mc ms := by
  intro sz
  refine Met.ofW (cc := cc) (maxL := maxL) (ret := some rty) hy hw ?_
  intro p e s m args below meth c s₁ B hml hv
  obtain ⟨rfl, hsz, hP, hK, hD0⟩ := hv
  have hts := atoms_spec (ws := wsY) B.pre
  have hlocks := B.notSynchronized
  subst hsz
  have hD := hD0.self (sz := s.heap.size)
  have hA : ∀ q : Nat, s.heap.size ≤ q → va_A WS s.heap.size q := fun q h => Or.inr h
  have hl := lv_entry As (n := maxL) hlen
  rw [lg_entry_eq]
  generalize (lg_sl As ++ List.replicate (maxL - (lg_sl As).length) Slot.unset).toArray = ls at hl ⊢
  exact body p e s m _ below meth c _ (va_A WS s.heap.size) ls B.exec B.bytes hml (findClass_of_methodNamed B.named) hts hP hK hD va_S.rf hA hl (fun H locs pc ls v u hd hn hp hP1 hD1 hS1 => W.zret B.exec B.bytes B.returns hn (fun t ht hW => ⟨⟨v, u, rfl, hp, by rw [ht]; exact hP1, va_K.moved hW.alike hK, hD1⟩, hS1.F ht⟩) hS1.2.2 hd)
/-- the beginning of a void contract -/
theorem rs_V {S : Type} {y : MethodName} {wsY wsY' : List Cond} {rm : Room} {As : List Value} {post : S → Prop} {w1 : S → va_W} {mc ms maxL : Nat} {WS : va_W}
    (hy : plainName y.cls = true) (hw : wsY = Cond.code y cc maxL none :: wsY') (hlen : (lg_sl As).length ≤ maxL)
    (body : ∀ (p : Program) (e : Env) (s : State) (m : MethodId) (args : Array Value) (below : List Frame) (meth : Method) (c : Code) (Q : State → Prop) (A : Nat → Prop) (ls : Array Slot),
      p.tables.exec = Jvm.exec → c.code = cc → c.maxLocals = maxL → s.vm.findClass y.cls = some m.cls → (∀ w ∈ wsY, w.before args s = true) → meth.name = y.name → va_P D vwCl WS s.heap → va_K D vwCl tys s → va_D A WS → va_S A s.heap s.heap [] → (∀ q : Nat, s.heap.size ≤ q → A q) → lv_has ls maxL (lv_args 0 As) →
      (∀ (H : Heap) (locs : List Loc) (pc : Nat) (ls : Array Slot) (u : S), decode cc pc = .ok (.return_, 1) → post u → va_P D vwCl (w1 u) H → va_D A (w1 u) → va_S A s.heap H locs → W p l e rm s m args below meth c H locs mc ms Q (F0 m pc ls [])) →
      W p l e rm s m args below meth c s.heap [] 0 0 Q (F0 m 0 ls [])) : MetV l y wsY rm D tys As WS post w1 mc ms := by
  intro sz
  refine Met.ofW (cc := cc) (maxL := maxL) (ret := none) hy hw ?_
  intro p e s m args below meth c s₁ B hml hv
  obtain ⟨rfl, hsz, hP, hK, hD0⟩ := hv
  have hts := atoms_spec (ws := wsY) B.pre
  have hlocks := B.notSynchronized
  subst hsz
  have hD := hD0.self (sz := s.heap.size)
  have hA : ∀ q : Nat, s.heap.size ≤ q → va_A WS s.heap.size q := fun q h => Or.inr h
  have hl := lv_entry As (n := maxL) hlen
  rw [lg_entry_eq]
  generalize (lg_sl As ++ List.replicate (maxL - (lg_sl As).length) Slot.unset).toArray = ls at hl ⊢
  exact body p e s m _ below meth c _ (va_A WS s.heap.size) ls B.exec B.bytes hml (findClass_of_methodNamed B.named) hts (name_of_methodNamed B.named B.method).1 hP hK hD va_S.rf hA hl (fun H locs pc ls u hd hp hP1 hD1 hS1 => W.vret B.exec B.bytes B.returns (fun t ht hW => ⟨⟨u, rfl, hp, by rw [ht]; exact hP1, va_K.moved hW.alike hK, hD1⟩, hS1.F ht⟩) hS1.2.2 hd)
theorem rs_blR {As : List Value} {WS : va_W} : FrameBlind (va_Pc As (fun U => va_P D vwCl WS U.heap ∧ va_K D vwCl tys U)) := fun a U g mk q => ⟨q.1, q.2.1, va_K.moved (u := U) (U := U.calling g mk a) (Vm.Alike.refl U.vm) q.2.2⟩
theorem rs_blI {As : List Value} {WS : va_W} {sz : Nat} : FrameBlind (va_Pc As (fun U => U.heap.size = sz ∧ va_P D vwCl WS U.heap ∧ va_K D vwCl tys U ∧ va_D (fun _ => True) WS)) := fun a U g mk q => ⟨q.1, q.2.1, q.2.2.1, va_K.moved (u := U) (U := U.calling g mk a) (Vm.Alike.refl U.vm) q.2.2.2.1, q.2.2.2.2⟩
end RSA
section RSB
variable {p : Program} {l : Launch} {e : Env} {R : Room} {s : State} {m : MethodId} {args : Array Value} {below : List Frame} {meth : Method} {c : Code} {H : Heap} {locs : List Loc} {cells slots : Nat} {Q : State → Prop}
variable {cc : ByteArray} {pc : Nat} {ls : Array Slot} {rest : List Value} {D : va_G} {tys : List (ClassId × FieldType)} {ws : va_W} {A : Nat → Prop}
variable {nL maxL index n : Nat} {Ts wsY : List Cond} {own C : String} {y : MethodName} {bytes : ByteArray} {ret : Option FieldType} {rm : Room} {As st : List Value} {b : Addr} {WC WR : va_W} {ci : Nat} {T : u_T} {N : Nat} {fs : List Value} {mc ms : Nat}
/-- a call of a read-only method (invokevirtual) -/
theorem rs_cR {post : Int32 → Prop} (S : CallFix p m c cc nL s args Ts own) (hsz : ls.size = nL) (hM : MetR l y wsY rm D tys (.ref b :: As) WC post) (cw : CallW R s args own C index y bytes maxL ret wsY rm 0 0 n) (hK : va_K D vwCl tys s) (hP : va_P D vwCl ws H) (is : List Nat) (hC : is.filterMap (fun i => ws[i]?) = WC) (hc : vwCl[ci]? = some (C, T, N)) (he : WC[0]? = some (b, .inr (ci, fs))) (hn : As.length = n) (hst : st = As.reverse ++ .ref b :: rest) (hW : (rest.map fun v => v.category).sum ≤ 8) (hdg : decode cc pc = .ok (.invokevirtual index, 3)) (hcl : cells ≤ R.cells) (hsl : slots ≤ R.slots)
    (kk : ∀ r : Int32, post r → W p l e R s m args below meth c H locs cells slots Q (F0 m (pc + 3) ls (.int r :: rest))) : W p l e R s m args below meth c H locs cells slots Q (F0 m pc ls st) := by
  subst hst
  have hP' := hP.sub is hC
  exact vp_callSi (W.runV S hM cw ⟨rs_blR, va_recv hK hP' hc he, fun U hU hW => ⟨rfl, by rw [hU]; exact hP', va_K.moved hW.alike hK⟩⟩ rfl hn hsz rfl (lv_room hW) hdg ⟨hcl, hsl⟩) kk
/-- a call of a read-only method (invokestatic) -/
theorem rs_cRS {post : Int32 → Prop} (S : CallFix p m c cc nL s args Ts own) (hsz : ls.size = nL) (hM : MetR l y wsY rm D tys As WC post) (cw : CallB R s args own index y bytes maxL ret wsY rm 0 0 n ∧ (Cond.static y).before args s = true) (hK : va_K D vwCl tys s) (hP : va_P D vwCl ws H) (is : List Nat) (hC : is.filterMap (fun i => ws[i]?) = WC) (hn : As.length = n) (hst : st = As.reverse ++ rest) (hW : (rest.map fun v => v.category).sum ≤ 8) (hdg : decode cc pc = .ok (.invokestatic index, 3)) (hcl : cells ≤ R.cells) (hsl : slots ≤ R.slots)
    (kk : ∀ r : Int32, post r → W p l e R s m args below meth c H locs cells slots Q (F0 m (pc + 3) ls (.int r :: rest))) : W p l e R s m args below meth c H locs cells slots Q (F0 m pc ls st) := by
  subst hst
  have hP' := hP.sub is hC
  exact vp_callSi (W.runS S hM cw ⟨rs_blR, fun U hU hW => ⟨rfl, by rw [hU]; exact hP', va_K.moved hW.alike hK⟩⟩ rfl hn hsz rfl (lv_room hW) hdg ⟨hcl, hsl⟩) kk
theorem rs_fm {isC : List Nat} (hC : isC.map (fun i => ws[i]?) = WC.map some) : isC.filterMap (fun i => ws[i]?) = WC := by
  have h : isC.filterMap (fun i => ws[i]?) = (isC.map (fun i => ws[i]?)).filterMap id := by rw [List.filterMap_map]; rfl
  rw [h, hC, List.filterMap_map]
  have e : (id ∘ some : (Nat × va_E) → Option (Nat × va_E)) = some := rfl
  rw [e, List.filterMap_some]
/-- a call of a void method that may write (invokevirtual) -/
theorem rs_cV {S : Type} {post : S → Prop} {w1 : S → va_W} (F : CallFix p m c cc nL s args Ts own) (hsz : ls.size = nL) (hM : MetV l y wsY rm D tys (.ref b :: As) WC post w1 mc ms) (cw : CallW R s args own C index y bytes maxL ret wsY rm mc ms n) (hK : va_K D vwCl tys s) (hP : va_P D vwCl ws H) (hD : va_D A ws) (hS : va_S A s.heap H locs) (hA : ∀ q, s.heap.size ≤ q → A q) (isC isR : List Nat) (hC : isC.map (fun i => ws[i]?) = WC.map some) (hR : isR.map (fun i => ws[i]?) = WR.map some) (hn1 : va_nd isC = true) (hn2 : va_nd isR = true) (hdis : ∀ i ∈ isR, i ∉ isC) (hc : vwCl[ci]? = some (C, T, N)) (he : WC[0]? = some (b, .inr (ci, fs))) (hn : As.length = n) (hst : st = As.reverse ++ .ref b :: rest) (hW : (rest.map fun v => v.category).sum ≤ 8) (hdg : decode cc pc = .ok (.invokevirtual index, 3)) (hcl : cells + mc ≤ R.cells) (hsl : slots + ms ≤ R.slots)
    (kk : ∀ (u : S) (H1 : Heap) (locs1 : List Loc), post u → va_P D vwCl (WR ++ w1 u) H1 → va_D A (WR ++ w1 u) → va_S A s.heap H1 locs1 → W p l e R s m args below meth c H1 locs1 (cells + mc) (slots + ms) Q (F0 m (pc + 3) ls rest)) : W p l e R s m args below meth c H locs cells slots Q (F0 m pc ls st) := by
  subst hst
  have hP' := hP.sub isC (rs_fm hC)
  have hDc := hD.sub isC hn1 hC
  have hFc := va_free hD hS hA isC hC
  refine va_callv (va_runV F (hM H.size) cw ⟨rs_blI, va_recv hK hP' hc he, fun U hU hW => ⟨rfl, by rw [hU], by rw [hU]; exact hP', va_K.moved hW.alike hK, hDc.weaken (fun _ _ _ _ => trivial)⟩⟩ rfl hn hsz rfl (lv_room hW) hdg ⟨hcl, hsl⟩) hS (fun q _ h => hFc q h) hFc (fun u t H1 locs1 ht hvm hw hB hz1 hk1 hS1 => ?_)
  obtain ⟨hP1, hK1, hD1⟩ := hB
  rw [ht] at hP1
  obtain ⟨hP2, hD2⟩ := va_join hP hD isC isR hC hR hn2 hdis hk1 hFc hP1 hD1
  exact kk u H1 locs1 hw hP2 hD2 hS1
/-- a call of a static void method that may write -/
theorem rs_cVS {S : Type} {post : S → Prop} {w1 : S → va_W} (F : CallFix p m c cc nL s args Ts own) (hsz : ls.size = nL) (hM : MetV l y wsY rm D tys As WC post w1 mc ms) (cw : CallB R s args own index y bytes maxL ret wsY rm mc ms n ∧ (Cond.static y).before args s = true) (hK : va_K D vwCl tys s) (hP : va_P D vwCl ws H) (hD : va_D A ws) (hS : va_S A s.heap H locs) (hA : ∀ q, s.heap.size ≤ q → A q) (isC isR : List Nat) (hC : isC.map (fun i => ws[i]?) = WC.map some) (hR : isR.map (fun i => ws[i]?) = WR.map some) (hn1 : va_nd isC = true) (hn2 : va_nd isR = true) (hdis : ∀ i ∈ isR, i ∉ isC) (hn : As.length = n) (hst : st = As.reverse ++ rest) (hW : (rest.map fun v => v.category).sum ≤ 8) (hdg : decode cc pc = .ok (.invokestatic index, 3)) (hcl : cells + mc ≤ R.cells) (hsl : slots + ms ≤ R.slots)
    (kk : ∀ (u : S) (H1 : Heap) (locs1 : List Loc), post u → va_P D vwCl (WR ++ w1 u) H1 → va_D A (WR ++ w1 u) → va_S A s.heap H1 locs1 → W p l e R s m args below meth c H1 locs1 (cells + mc) (slots + ms) Q (F0 m (pc + 3) ls rest)) : W p l e R s m args below meth c H locs cells slots Q (F0 m pc ls st) := by
  subst hst
  have hP' := hP.sub isC (rs_fm hC)
  have hDc := hD.sub isC hn1 hC
  have hFc := va_free hD hS hA isC hC
  refine va_callv (va_runS F (hM H.size) cw ⟨rs_blI, fun U hU hW => ⟨rfl, by rw [hU], by rw [hU]; exact hP', va_K.moved hW.alike hK, hDc.weaken (fun _ _ _ _ => trivial)⟩⟩ rfl hn hsz rfl (lv_room hW) hdg ⟨hcl, hsl⟩) hS (fun q _ h => hFc q h) hFc (fun u t H1 locs1 ht hvm hw hB hz1 hk1 hS1 => ?_)
  obtain ⟨hP1, hK1, hD1⟩ := hB
  rw [ht] at hP1
  obtain ⟨hP2, hD2⟩ := va_join hP hD isC isR hC hR hn2 hdis hk1 hFc hP1 hD1
  exact kk u H1 locs1 hw hP2 hD2 hS1
/-- a call of a constructor -/
theorem rs_cVN {S : Type} {post : S → Prop} {w1 : S → va_W} (F : CallFix p m c cc nL s args Ts own) (hsz : ls.size = nL) (hM : MetV l y wsY rm D tys (.ref b :: As) WC post w1 mc ms) (cw : CallB R s args own index y bytes maxL none wsY rm mc ms n ∧ y.name = "<init>" ∧ (Cond.instanceMethod y).before args s = true) (hK : va_K D vwCl tys s) (hP : va_P D vwCl ws H) (hD : va_D A ws) (hS : va_S A s.heap H locs) (hA : ∀ q, s.heap.size ≤ q → A q) (isC isR : List Nat) (hC : isC.map (fun i => ws[i]?) = WC.map some) (hR : isR.map (fun i => ws[i]?) = WR.map some) (hn1 : va_nd isC = true) (hn2 : va_nd isR = true) (hdis : ∀ i ∈ isR, i ∉ isC) (hn : As.length = n) (hst : st = As.reverse ++ .ref b :: rest) (hW : (rest.map fun v => v.category).sum ≤ 8) (hdg : decode cc pc = .ok (.invokespecial index, 3)) (hcl : cells + mc ≤ R.cells) (hsl : slots + ms ≤ R.slots)
    (kk : ∀ (u : S) (H1 : Heap) (locs1 : List Loc), post u → va_P D vwCl (WR ++ w1 u) H1 → va_D A (WR ++ w1 u) → va_S A s.heap H1 locs1 → W p l e R s m args below meth c H1 locs1 (cells + mc) (slots + ms) Q (F0 m (pc + 3) ls rest)) : W p l e R s m args below meth c H locs cells slots Q (F0 m pc ls st) := by
  subst hst
  have hP' := hP.sub isC (rs_fm hC)
  have hDc := hD.sub isC hn1 hC
  have hFc := va_free hD hS hA isC hC
  refine va_callv (va_runI F (hM H.size) cw ⟨rs_blI, fun U hU hW => ⟨rfl, by rw [hU], by rw [hU]; exact hP', va_K.moved hW.alike hK, hDc.weaken (fun _ _ _ _ => trivial)⟩⟩ rfl hn hsz rfl (lv_room hW) hdg ⟨hcl, hsl⟩) hS (fun q _ h => hFc q h) hFc (fun u t H1 locs1 ht hvm hw hB hz1 hk1 hS1 => ?_)
  obtain ⟨hP1, hK1, hD1⟩ := hB
  rw [ht] at hP1
  obtain ⟨hP2, hD2⟩ := va_join hP hD isC isR hC hR hn2 hdis hk1 hFc hP1 hD1
  exact kk u H1 locs1 hw hP2 hD2 hS1
/-- a call of an int method that may write (invokevirtual) -/
theorem rs_cI {S : Type} {post : Int32 → S → Prop} {w1 : S → va_W} (F : CallFix p m c cc nL s args Ts own) (hsz : ls.size = nL) (hM : MetI l y wsY rm D tys (.ref b :: As) WC post w1 mc ms) (cw : CallW R s args own C index y bytes maxL ret wsY rm mc ms n) (hK : va_K D vwCl tys s) (hP : va_P D vwCl ws H) (hD : va_D A ws) (hS : va_S A s.heap H locs) (hA : ∀ q, s.heap.size ≤ q → A q) (isC isR : List Nat) (hC : isC.map (fun i => ws[i]?) = WC.map some) (hR : isR.map (fun i => ws[i]?) = WR.map some) (hn1 : va_nd isC = true) (hn2 : va_nd isR = true) (hdis : ∀ i ∈ isR, i ∉ isC) (hc : vwCl[ci]? = some (C, T, N)) (he : WC[0]? = some (b, .inr (ci, fs))) (hn : As.length = n) (hst : st = As.reverse ++ .ref b :: rest) (hW : (rest.map fun v => v.category).sum ≤ 8) (hdg : decode cc pc = .ok (.invokevirtual index, 3)) (hcl : cells + mc ≤ R.cells) (hsl : slots + ms ≤ R.slots)
    (kk : ∀ (r : Int32) (u : S) (H1 : Heap) (locs1 : List Loc), post r u → va_P D vwCl (WR ++ w1 u) H1 → va_D A (WR ++ w1 u) → va_S A s.heap H1 locs1 → W p l e R s m args below meth c H1 locs1 (cells + mc) (slots + ms) Q (F0 m (pc + 3) ls (.int r :: rest))) : W p l e R s m args below meth c H locs cells slots Q (F0 m pc ls st) := by
  subst hst
  have hP' := hP.sub isC (rs_fm hC)
  have hDc := hD.sub isC hn1 hC
  have hFc := va_free hD hS hA isC hC
  refine va_calli (va_runV F (hM H.size) cw ⟨rs_blI, va_recv hK hP' hc he, fun U hU hW => ⟨rfl, by rw [hU], by rw [hU]; exact hP', va_K.moved hW.alike hK, hDc.weaken (fun _ _ _ _ => trivial)⟩⟩ rfl hn hsz rfl (lv_room hW) hdg ⟨hcl, hsl⟩) hS (fun q _ h => hFc q h) hFc (fun r u t H1 locs1 ht hvm hw hB hz1 hk1 hS1 => ?_)
  obtain ⟨hP1, hK1, hD1⟩ := hB
  rw [ht] at hP1
  obtain ⟨hP2, hD2⟩ := va_join hP hD isC isR hC hR hn2 hdis hk1 hFc hP1 hD1
  exact kk r u H1 locs1 hw hP2 hD2 hS1
end RSB
end
section
/-! plain facts: sums, counts of what isn't 0, places, clamps -/
def ms_sm (F : Nat → Int32) : Nat → Int32
  | 0 => 0
  | n + 1 => ms_sm F n + F n
def ms_rc (p : Nat → Int32) : Nat → Nat
  | 0 => 0
  | n + 1 => ms_rc p n + (if p n = 0 then 0 else 1)
def ms_sc (M : Nat → Nat → Int32) (S : Nat) : Nat → Nat
  | 0 => 0
  | i + 1 => ms_sc M S i + ms_rc (M i) S
def ms_bI (b : Bool) : Int32 := if b then 1 else 0
def ms_in (x : Int32) (N : Nat) : Bool := decide (0 ≤ x.toInt ∧ x.toInt < (N : Int))
def ms_cl (x : Int32) (N : Nat) : Nat := if x.toInt < 1 then 1 else if (N : Int) < x.toInt then N else x.toInt.toNat
theorem ms_lt (a b : Int32) : a < b ↔ a.toInt < b.toInt := Int32.lt_iff_toInt_lt
theorem ms_le (a b : Int32) : a ≤ b ↔ a.toInt ≤ b.toInt := Int32.le_iff_toInt_le
theorem ms_eq (a b : Int32) : a = b ↔ a.toInt = b.toInt := ⟨fun h => by rw [h], fun h => Int32.toInt_inj.mp h⟩
theorem ms_z : (0 : Int32).toInt = 0 := by decide
theorem ms_nz : nI 0 = 0 := by decide
theorem ms_n1 : nI 1 = 1 := by decide
theorem ms_bI_nar (b : Bool) : narrow .boolean (.int (ms_bI b)) = .int (ms_bI b) := by cases b <;> rfl
theorem ms_bI_t {b : Bool} (h : b = true) : nI 1 = ms_bI b := by rw [h]; decide
theorem ms_bI_f {b : Bool} (h : b = false) : nI 0 = ms_bI b := by rw [h]; decide
theorem ms_bI_0 {b : Bool} : ms_bI b = 0 ↔ b = false := by cases b <;> decide
theorem ms_bI_n {b : Bool} : ¬ ms_bI b = 0 ↔ b = true := by cases b <;> decide
theorem ms_in_t {x : Int32} {N : Nat} (hN : N < 2 ^ 31) (h1 : ¬ x < 0) (h2 : ¬ nI N ≤ x) : ms_in x N = true := by
  rw [ms_lt, ms_z] at h1
  rw [ms_le, nI_toInt hN] at h2
  exact decide_eq_true ⟨by omega, by omega⟩
theorem ms_in_f1 {x : Int32} {N : Nat} (h1 : x < 0) : ms_in x N = false := by
  rw [ms_lt, ms_z] at h1
  exact decide_eq_false (fun q => by omega)
theorem ms_in_f2 {x : Int32} {N : Nat} (hN : N < 2 ^ 31) (h2 : nI N ≤ x) : ms_in x N = false := by
  rw [ms_le, nI_toInt hN] at h2
  exact decide_eq_false (fun q => by omega)
theorem ms_in_of {x : Int32} {N : Nat} (h : ms_in x N = true) (hN : N < 2 ^ 31) : ∃ j : Nat, j < N ∧ x = nI j := by
  have h := of_decide_eq_true h
  exact vp_in_of (vp_in_iff.mpr ⟨h.1, h.2⟩) hN
theorem ms_in_nI {j N : Nat} (h : j < N) (hN : N < 2 ^ 31) : ms_in (nI j) N = true := by
  refine decide_eq_true ?_
  rw [nI_toInt (by omega)]
  omega
theorem ms_cl_b {x : Int32} {N : Nat} (hN : 1 ≤ N) : 1 ≤ ms_cl x N ∧ ms_cl x N ≤ N := by
  unfold ms_cl
  split
  · omega
  · split
    · omega
    · omega
theorem ms_of_toInt {x : Int32} {n : Nat} (hn : n < 2 ^ 31) (h : x.toInt = (n : Int)) : x = nI n := by
  rw [ms_eq, h, nI_toInt hn]
theorem ms_cl_1 {x : Int32} {N : Nat} (h : x.toInt < 1) : nI 1 = nI (ms_cl x N) := by
  unfold ms_cl
  rw [if_pos h]
theorem ms_cl_2 {x : Int32} {N : Nat} (h : ¬ x.toInt < 1) (h2 : (N : Int) < x.toInt) : nI N = nI (ms_cl x N) := by
  unfold ms_cl
  rw [if_neg h, if_pos h2]
theorem ms_cl_3 {x : Int32} {N : Nat} (hN : N < 2 ^ 31) (h : ¬ x.toInt < 1) (h2 : ¬ (N : Int) < x.toInt) : x = nI (ms_cl x N) := by
  unfold ms_cl
  rw [if_neg h, if_neg h2]
  exact ms_of_toInt (by omega) (by omega)
theorem ms_one : (1 : Int32).toInt = 1 := by decide
/-- Math.max(1, Math.min(N, x)) -/
theorem ms_near {x : Int32} {N : Nat} (h1 : 1 ≤ N) (hN : N < 2 ^ 31) : (if nI 1 < (if x < nI N then x else nI N) then (if x < nI N then x else nI N) else nI 1) = nI (ms_cl x N) := by
  by_cases c1 : x < nI N
  · rw [if_pos c1]
    rw [ms_lt, nI_toInt hN] at c1
    by_cases c2 : nI 1 < x
    · rw [if_pos c2]
      rw [ms_lt, ms_n1, ms_one] at c2
      exact ms_cl_3 hN (by omega) (by omega)
    · rw [if_neg c2]
      rw [ms_lt, ms_n1, ms_one] at c2
      by_cases c3 : x.toInt < 1
      · exact ms_cl_1 c3
      · rw [← ms_cl_3 hN c3 (by omega)]
        exact (ms_of_toInt (by omega) (by omega)).symm
  · rw [if_neg c1]
    rw [ms_lt, nI_toInt hN] at c1
    by_cases c2 : nI 1 < nI N
    · rw [if_pos c2]
      by_cases c4 : (N : Int) < x.toInt
      · exact ms_cl_2 (by omega) c4
      · rw [← ms_cl_3 hN (by omega) c4]
        exact (ms_of_toInt hN (by omega)).symm
    · rw [if_neg c2]
      rw [nI_ltI (by omega) hN] at c2
      have : N = 1 := by omega
      subst this
      by_cases c4 : ((1 : Nat) : Int) < x.toInt
      · exact ms_cl_2 (by omega) c4
      · rw [← ms_cl_3 hN (by omega) c4]
        exact (ms_of_toInt hN (by omega)).symm
theorem ms_max {a b : Nat} (ha : a < 2 ^ 31) (hb : b < 2 ^ 31) : (if nI a < nI b then nI b else nI a) = nI (max a b) := by
  by_cases h : nI a < nI b
  · rw [if_pos h]
    rw [nI_ltI ha hb] at h
    rw [Nat.max_eq_right (by omega)]
  · rw [if_neg h]
    rw [nI_ltI ha hb] at h
    rw [Nat.max_eq_left (by omega)]
theorem ms_sm_congr {F G : Nat → Int32} : ∀ {n : Nat}, (∀ t, t < n → F t = G t) → ms_sm F n = ms_sm G n
  | 0, _ => rfl
  | n + 1, h => by
    rw [ms_sm, ms_sm, ms_sm_congr (fun t ht => h t (Nat.lt_succ_of_lt ht)), h n (Nat.lt_succ_self n)]
theorem ms_sm_zero {F : Nat → Int32} : ∀ {n : Nat}, (∀ t, t < n → F t = 0) → ms_sm F n = 0
  | 0, _ => rfl
  | n + 1, h => by
    rw [ms_sm, ms_sm_zero (fun t ht => h t (Nat.lt_succ_of_lt ht)), h n (Nat.lt_succ_self n), Int32.add_zero]
theorem ms_sm_wide {F : Nat → Int32} {a : Nat} : ∀ (b : Nat), (∀ t, a ≤ t → F t = 0) → ms_sm F (a + b) = ms_sm F a
  | 0, _ => rfl
  | b + 1, h => by
    rw [← Nat.add_assoc, ms_sm, ms_sm_wide b h, h (a + b) (by omega), Int32.add_zero]
theorem ms_rc_congr {p q : Nat → Int32} : ∀ {n : Nat}, (∀ t, t < n → p t = q t) → ms_rc p n = ms_rc q n
  | 0, _ => rfl
  | n + 1, h => by
    rw [ms_rc, ms_rc, ms_rc_congr (fun t ht => h t (Nat.lt_succ_of_lt ht)), h n (Nat.lt_succ_self n)]
theorem ms_rc_le (p : Nat → Int32) : ∀ n, ms_rc p n ≤ n
  | 0 => Nat.le_refl 0
  | n + 1 => by
    have := ms_rc_le p n
    rw [ms_rc]
    split <;> omega
theorem ms_rc_mono (p : Nat → Int32) (a : Nat) : ∀ b, ms_rc p a ≤ ms_rc p (a + b)
  | 0 => Nat.le_refl _
  | b + 1 => by
    have := ms_rc_mono p a b
    rw [← Nat.add_assoc, ms_rc]
    omega
theorem ms_rc_lt {p : Nat → Int32} {j n : Nat} (h : j < n) (hp : ¬ p j = 0) : ms_rc p j < ms_rc p n := by
  have h1 := ms_rc_mono p (j + 1) (n - (j + 1))
  rw [show j + 1 + (n - (j + 1)) = n by omega, ms_rc, if_neg hp] at h1
  omega
theorem ms_rc_wide {p : Nat → Int32} {a : Nat} : ∀ (b : Nat), (∀ t, a ≤ t → p t = 0) → ms_rc p (a + b) = ms_rc p a
  | 0, _ => rfl
  | b + 1, h => by
    rw [← Nat.add_assoc, ms_rc, ms_rc_wide b h, if_pos (h (a + b) (by omega)), Nat.add_zero]
theorem ms_rc_yes {p : Nat → Int32} {n : Nat} (h : ¬ p n = 0) : ms_rc p (n + 1) = ms_rc p n + 1 := by rw [ms_rc, if_neg h]
theorem ms_rc_no {p : Nat → Int32} {n : Nat} (h : p n = 0) : ms_rc p (n + 1) = ms_rc p n := by rw [ms_rc, if_pos h, Nat.add_zero]
theorem ms_rc_at (p : Nat → Int32) : ∀ (n t : Nat), t < ms_rc p n → ∃ j, j < n ∧ ¬ p j = 0 ∧ ms_rc p j = t
  | 0, t, h => absurd h (Nat.not_lt_zero t)
  | n + 1, t, h => by
    by_cases hp : p n = 0
    · rw [ms_rc_no hp] at h
      obtain ⟨j, h1, h2, h3⟩ := ms_rc_at p n t h
      exact ⟨j, by omega, h2, h3⟩
    · rw [ms_rc_yes hp] at h
      by_cases ht : t < ms_rc p n
      · obtain ⟨j, h1, h2, h3⟩ := ms_rc_at p n t ht
        exact ⟨j, by omega, h2, h3⟩
      · exact ⟨n, by omega, hp, by omega⟩
theorem ms_sc_le (M : Nat → Nat → Int32) (S : Nat) : ∀ i, ms_sc M S i ≤ i * S
  | 0 => by rw [ms_sc]; omega
  | i + 1 => by
    have h1 := ms_sc_le M S i
    have h2 := ms_rc_le (M i) S
    rw [ms_sc, Nat.succ_mul]
    omega
theorem ms_sc_mono (M : Nat → Nat → Int32) (S a : Nat) : ∀ b, ms_sc M S a ≤ ms_sc M S (a + b)
  | 0 => Nat.le_refl _
  | b + 1 => by
    have := ms_sc_mono M S a b
    rw [← Nat.add_assoc, ms_sc]
    omega
theorem ms_sc_mn (M : Nat → Nat → Int32) (S : Nat) {a b : Nat} (h : a ≤ b) : ms_sc M S a ≤ ms_sc M S b := by
  have := ms_sc_mono M S a (b - a)
  rw [show a + (b - a) = b by omega] at this
  exact this
theorem ms_sc_congr {M N : Nat → Nat → Int32} {S : Nat} : ∀ {n : Nat}, (∀ i j, i < n → j < S → M i j = N i j) → ms_sc M S n = ms_sc N S n
  | 0, _ => rfl
  | n + 1, h => by
    rw [ms_sc, ms_sc, ms_sc_congr (fun i j hi hj => h i j (Nat.lt_succ_of_lt hi) hj), ms_rc_congr (fun t ht => h n t (Nat.lt_succ_self n) ht)]
theorem ms_sc_wide {M : Nat → Nat → Int32} {C S : Nat} (hC : C ≤ S) (h : ∀ i j, C ≤ j → M i j = 0) : ∀ i, ms_sc M S i = ms_sc M C i
  | 0 => rfl
  | i + 1 => by
    have e := ms_rc_wide (p := M i) (a := C) (S - C) (fun t ht => h i t ht)
    rw [show C + (S - C) = S by omega] at e
    rw [ms_sc, ms_sc, ms_sc_wide hC h i, e]
/-- a place of the support by its number -/
theorem ms_sc_at (M : Nat → Nat → Int32) (S : Nat) : ∀ (n t : Nat), t < ms_sc M S n → ∃ i j, i < n ∧ j < S ∧ ¬ M i j = 0 ∧ ms_sc M S i + ms_rc (M i) j = t
  | 0, t, h => absurd h (Nat.not_lt_zero t)
  | n + 1, t, h => by
    by_cases ht : t < ms_sc M S n
    · obtain ⟨i, j, h1, h2, h3, h4⟩ := ms_sc_at M S n t ht
      exact ⟨i, j, by omega, h2, h3, h4⟩
    · rw [ms_sc] at h
      obtain ⟨j, h1, h2, h3⟩ := ms_rc_at (M n) S (t - ms_sc M S n) (by omega)
      exact ⟨n, j, by omega, h1, h2, by omega⟩
theorem ms_sc_lt {M : Nat → Nat → Int32} {S R i j : Nat} (hi : i < R) (hj : j < S) (h : ¬ M i j = 0) : ms_sc M S i + ms_rc (M i) j < ms_sc M S R := by
  have h1 := ms_rc_lt hj h
  have h2 := ms_sc_mn M S (show i + 1 ≤ R from hi)
  rw [ms_sc] at h2
  omega
/-- sums over the support of a row -/
theorem ms_supp {p w : Nat → Int32} {J : Nat → Nat} (G : Nat → Int32 → Int32) : ∀ (S : Nat), (∀ j, j < S → ¬ p j = 0 → J (ms_rc p j) = j ∧ w (ms_rc p j) = p j) → ms_sm (fun t => G (J t) (w t)) (ms_rc p S) = ms_sm (fun j => if p j = 0 then 0 else G j (p j)) S
  | 0, _ => rfl
  | S + 1, h => by
    have ih := ms_supp G S (fun j hj hp => h j (Nat.lt_succ_of_lt hj) hp)
    by_cases hp : p S = 0
    · rw [ms_rc_no hp, ih, ms_sm, if_pos hp, Int32.add_zero]
    · obtain ⟨h1, h2⟩ := h S (Nat.lt_succ_self S) hp
      rw [ms_rc_yes hp, ms_sm, ih, ms_sm, if_neg hp, h1, h2]
theorem ms_sm_one {F : Nat → Int32} {j : Nat} : ∀ (n : Nat), j < n → ms_sm (fun t => if t = j then F t else 0) n = F j
  | 0, h => absurd h (Nat.not_lt_zero j)
  | n + 1, h => by
    rw [ms_sm]
    by_cases hn : j = n
    · subst hn
      rw [if_pos rfl, ms_sm_zero (fun t ht => if_neg (by omega)), Int32.zero_add]
    · rw [ms_sm_one n (by omega), if_neg (by omega), Int32.add_zero]
/-- the whole count the other way round -/
def ms_sN (F : Nat → Nat) : Nat → Nat
  | 0 => 0
  | n + 1 => ms_sN F n + F n
theorem ms_sN_congr {F G : Nat → Nat} : ∀ {n : Nat}, (∀ t, t < n → F t = G t) → ms_sN F n = ms_sN G n
  | 0, _ => rfl
  | n + 1, h => by
    rw [ms_sN, ms_sN, ms_sN_congr (fun t ht => h t (Nat.lt_succ_of_lt ht)), h n (Nat.lt_succ_self n)]
theorem ms_sN_add (F G : Nat → Nat) : ∀ n, ms_sN (fun t => F t + G t) n = ms_sN F n + ms_sN G n
  | 0 => rfl
  | n + 1 => by rw [ms_sN, ms_sN, ms_sN, ms_sN_add F G n]; omega
theorem ms_sN_0 : ∀ n, ms_sN (fun _ => 0) n = 0
  | 0 => rfl
  | n + 1 => by rw [ms_sN, ms_sN_0 n]
def ms_b1 (x : Int32) : Nat := if x = 0 then 0 else 1
theorem ms_rc_sN (p : Nat → Int32) : ∀ n, ms_rc p n = ms_sN (fun j => ms_b1 (p j)) n
  | 0 => rfl
  | n + 1 => by rw [ms_rc, ms_sN, ms_rc_sN p n]; rfl
theorem ms_sc_sN (M : Nat → Nat → Int32) (S : Nat) : ∀ n, ms_sc M S n = ms_sN (fun i => ms_sN (fun j => ms_b1 (M i j)) S) n
  | 0 => rfl
  | n + 1 => by rw [ms_sc, ms_sN, ms_sc_sN M S n, ms_rc_sN]
theorem ms_sN_swap (F : Nat → Nat → Nat) (a : Nat) : ∀ b, ms_sN (fun i => ms_sN (fun j => F i j) b) a = ms_sN (fun j => ms_sN (fun i => F i j) a) b
  | 0 => ms_sN_0 a
  | b + 1 => by
    rw [ms_sN, ← ms_sN_swap F a b, ← ms_sN_add]
    rfl
theorem ms_sN_wide {F : Nat → Nat} {a : Nat} : ∀ (b : Nat), (∀ t, a ≤ t → F t = 0) → ms_sN F (a + b) = ms_sN F a
  | 0, _ => rfl
  | b + 1, h => by rw [← Nat.add_assoc, ms_sN, ms_sN_wide b h, h (a + b) (by omega), Nat.add_zero]
/-- a matrix and the one turned about have as many places -/
theorem ms_turn {M : Nat → Nat → Int32} {R C S : Nat} (hR : R ≤ S) (hC : C ≤ S) (h : ∀ i j, R ≤ i ∨ C ≤ j → M i j = 0) : ms_sc (fun i j => M j i) S C = ms_sc M S R := by
  have e1 := ms_sc_wide (M := fun i j => M j i) hR (fun i j hj => h j i (Or.inl hj)) C
  have e2 := ms_sc_wide hC (fun i j hj => h i j (Or.inr hj)) R
  rw [e1, e2, ms_sc_sN, ms_sc_sN]
  exact ms_sN_swap (fun i j => ms_b1 (M j i)) C R
end
section
/-! the support: starts, columns, values as a picture of a matrix -/
theorem ms_in2_t {x : Int32} {h : Nat} (hh : h + 1 < 2 ^ 31) (h1 : ¬ x < nI 0) (h2 : ¬ nI h < x) : ms_in x (h + 1) = true := by
  rw [ms_lt, ms_nz, ms_z] at h1
  rw [ms_lt, nI_toInt (by omega)] at h2
  exact decide_eq_true ⟨by omega, by omega⟩
theorem ms_in2_f1 {x : Int32} {h : Nat} (h1 : x < nI 0) : ms_in x (h + 1) = false := by
  rw [ms_nz] at h1
  exact ms_in_f1 h1
theorem ms_in2_f2 {x : Int32} {h : Nat} (hh : h + 1 < 2 ^ 31) (h2 : nI h < x) : ms_in x (h + 1) = false := by
  rw [ms_lt, nI_toInt (by omega)] at h2
  exact decide_eq_false (fun q => by omega)
theorem ms_acc {Z1 Z G : Nat → Int32} {J : Nat → Nat} {t : Nat} (hZ : ∀ j, Z1 j = Z j + ms_sm (fun t => if J t = j then G t else 0) t) : ∀ j, upd Z1 (J t) (Z1 (J t) + G t) j = Z j + ms_sm (fun t => if J t = j then G t else 0) (t + 1) := by
  intro j
  rw [ms_sm]
  by_cases h : J t = j
  · subst h
    rw [pk_us, hZ, if_pos rfl, Int32.add_assoc]
  · rw [pk_un (fun q => h q.symm), hZ, if_neg h, Int32.add_zero]
theorem ms_put_step {Z g1 w1 g w : Nat → Int32} {q0 j : Nat} (c : ¬ Z j = 0) (hg : ∀ t, t < j → ¬ Z t = 0 → g1 (q0 + ms_rc Z t) = nI t ∧ w1 (q0 + ms_rc Z t) = Z t) (ho : ∀ q, q < q0 → g1 q = g q ∧ w1 q = w q) :
    (∀ t, t < j + 1 → ¬ Z t = 0 → upd g1 (q0 + ms_rc Z j) (nI j) (q0 + ms_rc Z t) = nI t ∧ upd w1 (q0 + ms_rc Z j) (Z j) (q0 + ms_rc Z t) = Z t) ∧ (∀ q, q < q0 → upd g1 (q0 + ms_rc Z j) (nI j) q = g q ∧ upd w1 (q0 + ms_rc Z j) (Z j) q = w q) := by
  refine ⟨fun t ht hz => ?_, fun q hq => ?_⟩
  · by_cases e : t = j
    · subst e
      exact ⟨pk_us, pk_us⟩
    · have h1 := ms_rc_lt (p := Z) (show t < j by omega) hz
      rw [pk_un (by omega), pk_un (by omega)]
      exact hg t (by omega) hz
  · rw [pk_un (by omega), pk_un (by omega)]
    exact ho q hq
theorem ms_put_skip {Z g1 w1 : Nat → Int32} {q0 j : Nat} (c : Z j = 0) (hg : ∀ t, t < j → ¬ Z t = 0 → g1 (q0 + ms_rc Z t) = nI t ∧ w1 (q0 + ms_rc Z t) = Z t) : ∀ t, t < j + 1 → ¬ Z t = 0 → g1 (q0 + ms_rc Z t) = nI t ∧ w1 (q0 + ms_rc Z t) = Z t := by
  intro t ht hz
  by_cases e : t = j
  · subst e
    exact absurd c hz
  · exact hg t (by omega) hz
def ms_Sup (K S R : Nat) (M : Nat → Nat → Int32) (f g w : Nat → Int32) : Prop :=
  (∀ i, i ≤ R → f i = nI (ms_sc M S i)) ∧ ms_sc M S R ≤ K ∧ ∀ i j, i < R → j < S → ¬ M i j = 0 → g (ms_sc M S i + ms_rc (M i) j) = nI j ∧ w (ms_sc M S i + ms_rc (M i) j) = M i j
def ms_J (g : Nat → Int32) (q0 t : Nat) : Nat := (g (q0 + t)).toNatClampNeg
theorem ms_Jat {K S R : Nat} {M : Nat → Nat → Int32} {f g w : Nat → Int32} (h : ms_Sup K S R M f g w) (hS : S < 2 ^ 31) {i j : Nat} (hi : i < R) (hj : j < S) (hz : ¬ M i j = 0) : ms_J g (ms_sc M S i) (ms_rc (M i) j) = j := by
  unfold ms_J
  rw [(h.2.2 i j hi hj hz).1, nI_clamp (by omega)]
theorem ms_Jt {K S R : Nat} {M : Nat → Nat → Int32} {f g w : Nat → Int32} (h : ms_Sup K S R M f g w) (hS : S < 2 ^ 31) {i t : Nat} (hi : i < R) (ht : t < ms_rc (M i) S) : ms_J g (ms_sc M S i) t < S ∧ ¬ M i (ms_J g (ms_sc M S i) t) = 0 ∧ g (ms_sc M S i + t) = nI (ms_J g (ms_sc M S i) t) ∧ w (ms_sc M S i + t) = M i (ms_J g (ms_sc M S i) t) := by
  obtain ⟨j, h1, h2, h3⟩ := ms_rc_at (M i) S t ht
  subst h3
  have e := ms_Jat h hS hi h1 h2
  rw [e]
  exact ⟨h1, h2, h.2.2 i j hi h1 h2⟩
theorem ms_Sq {K S R : Nat} {M : Nat → Nat → Int32} {f g w : Nat → Int32} (h : ms_Sup K S R M f g w) {i : Nat} (hi : i < R) : f i = nI (ms_sc M S i) ∧ f (i + 1) = nI (ms_sc M S (i + 1)) ∧ ms_sc M S i ≤ ms_sc M S (i + 1) ∧ ms_sc M S (i + 1) ≤ K ∧ ms_sc M S (i + 1) - ms_sc M S i = ms_rc (M i) S := by
  have h1 := ms_sc_mn M S (show i + 1 ≤ R from hi)
  have h2 := h.2.1
  have e : ms_sc M S (i + 1) = ms_sc M S i + ms_rc (M i) S := rfl
  exact ⟨h.1 i (by omega), h.1 (i + 1) hi, by omega, by omega, by omega⟩
/-- entry -/
theorem ms_entry {K S R : Nat} {M : Nat → Nat → Int32} {f g w : Nat → Int32} (h : ms_Sup K S R M f g w) (hS : S < 2 ^ 31) {i j : Nat} (hi : i < R) (hj : j < S) {r : Int32}
    (hr : (∃ q, ms_sc M S i ≤ q ∧ q < ms_sc M S (i + 1) ∧ g q = nI j ∧ r = w q) ∨ (r = 0 ∧ ∀ q, ms_sc M S i ≤ q → q < ms_sc M S (i + 1) → ¬ g q = nI j)) : r = M i j := by
  have e := (ms_Sq h hi).2.2.2.2
  have e2 := (ms_Sq h hi).2.2.1
  rcases hr with ⟨q, h1, h2, h3, h4⟩ | ⟨h1, h2⟩
  · have ht : q - ms_sc M S i < ms_rc (M i) S := by omega
    obtain ⟨k1, k2, k3, k4⟩ := ms_Jt h hS hi ht
    rw [show ms_sc M S i + (q - ms_sc M S i) = q by omega] at k3 k4
    rw [k3] at h3
    have h5 := (nI_eq (by omega) (by omega)).mp h3
    rw [h4, k4, h5]
  · rw [h1]
    by_cases hz : M i j = 0
    · exact hz.symm
    · have h5 := ms_rc_lt hj hz
      exact absurd (h.2.2 i j hi hj hz).1 (h2 _ (by omega) (by omega))
/-- sums over a row's support -/
theorem ms_rowsum {K S R : Nat} {M : Nat → Nat → Int32} {f g w : Nat → Int32} (h : ms_Sup K S R M f g w) (hS : S < 2 ^ 31) {i : Nat} (hi : i < R) (G : Nat → Int32 → Int32) (hG : ∀ j, G j 0 = 0) : ms_sm (fun t => G (ms_J g (ms_sc M S i) t) (w (ms_sc M S i + t))) (ms_rc (M i) S) = ms_sm (fun j => G j (M i j)) S := by
  rw [ms_supp (p := M i) (w := fun t => w (ms_sc M S i + t)) (J := ms_J g (ms_sc M S i)) G S (fun j hj hz => ⟨ms_Jat h hS hi hj hz, (h.2.2 i j hi hj hz).2⟩)]
  refine ms_sm_congr (fun j _ => ?_)
  by_cases hz : M i j = 0
  · rw [if_pos hz, hz, hG]
  · rw [if_neg hz]
theorem ms_addrow {K S R : Nat} {M : Nat → Nat → Int32} {f g w Z u : Nat → Int32} (h : ms_Sup K S R M f g w) (hS : S < 2 ^ 31) {i : Nat} (hi : i < R) {fac : Int32} (hu : ∀ j, u j = Z j + ms_sm (fun t => if ms_J g (ms_sc M S i) t = j then fac * w (ms_sc M S i + t) else 0) (ms_sc M S (i + 1) - ms_sc M S i)) : ∀ j, j < S → u j = Z j + fac * M i j := by
  intro j hj
  rw [hu j, (ms_Sq h hi).2.2.2.2, ms_rowsum h hS hi (fun k v => if k = j then fac * v else 0) (fun k => by rw [Int32.mul_zero]; split <;> rfl), ms_sm_one (F := fun k => fac * M i k) S hj]
theorem ms_sqstep {S : Nat} {u Z1 Z F : Nat → Int32} {G : Nat → Nat → Int32} {t : Nat} (hu : ∀ j, j < S → u j = Z1 j + G t j) (hZ : ∀ j, j < S → Z1 j = Z j + ms_sm (fun t => G t j) t) : ∀ j, j < S → u j = Z j + ms_sm (fun t => G t j) (t + 1) := by
  intro j hj
  rw [hu j hj, hZ j hj, ms_sm, Int32.add_assoc]
theorem ms_sqrow {K S R : Nat} {M : Nat → Nat → Int32} {f g w Z u : Nat → Int32} (h : ms_Sup K S R M f g w) (hS : S < 2 ^ 31) {i : Nat} (hi : i < R) (hu : ∀ j, j < S → u j = Z j + ms_sm (fun t => w (ms_sc M S i + t) * M (ms_J g (ms_sc M S i) t) j) (ms_rc (M i) S)) : ∀ j, j < S → u j = Z j + ms_sm (fun k => M i k * M k j) S := by
  intro j hj
  rw [hu j hj, ms_rowsum h hS hi (fun k v => v * M k j) (fun k => Int32.zero_mul)]
/-- one row more -/
theorem ms_supstep {K S i : Nat} {N : Nat → Nat → Int32} {f g w Z f1 g1 w1 : Nat → Int32} (h : ms_Sup K S i N f g w) (hZ : ∀ j, j < S → Z j = N i j) (hk : ms_sc N S i + ms_rc Z S ≤ K) (hf : f1 = upd f (i + 1) (nI (ms_sc N S i + ms_rc Z S)))
    (hg : ∀ j, j < S → ¬ Z j = 0 → g1 (ms_sc N S i + ms_rc Z j) = nI j ∧ w1 (ms_sc N S i + ms_rc Z j) = Z j) (ho : ∀ q, q < ms_sc N S i → g1 q = g q ∧ w1 q = w q) : ms_Sup K S (i + 1) N f1 g1 w1 := by
  have e : ms_rc Z S = ms_rc (N i) S := ms_rc_congr hZ
  have e2 : ms_sc N S (i + 1) = ms_sc N S i + ms_rc Z S := by rw [ms_sc, e]
  refine ⟨fun a ha => ?_, by rw [e2]; exact hk, fun a j ha hj hz => ?_⟩
  · subst hf
    by_cases hA : a = i + 1
    · subst hA
      rw [pk_us, e2]
    · rw [pk_un hA]
      exact h.1 a (by omega)
  · by_cases hA : a = i
    · subst hA
      have e3 : ms_rc (N a) j = ms_rc Z j := ms_rc_congr (fun t ht => (hZ t (by omega)).symm)
      rw [e3, ← hZ j hj]
      exact hg j hj (by rw [hZ j hj]; exact hz)
    · have h1 := ms_sc_lt (R := i) (show a < i by omega) hj hz
      obtain ⟨k1, k2⟩ := ho _ h1
      rw [k1, k2]
      exact h.2.2 a j (by omega) hj hz
theorem ms_sup0 {K S : Nat} {N : Nat → Nat → Int32} {f g w : Nat → Int32} (h : f 0 = 0) : ms_Sup K S 0 N f g w :=
  ⟨fun i hi => by
    have : i = 0 := by omega
    subst this
    rw [h]; rfl, Nat.zero_le _, fun i j hi => absurd hi (Nat.not_lt_zero i)⟩
theorem ms_sup_congr {K S R : Nat} {M N : Nat → Nat → Int32} {f g w : Nat → Int32} (h : ms_Sup K S R M f g w) (e : ∀ i j, M i j = N i j) : ms_Sup K S R N f g w := by
  have : M = N := funext fun i => funext fun j => e i j
  rw [← this]
  exact h
end
section
set_option maxHeartbeats 4000000 in
set_option maxRecDepth 100000 in
theorem c_isWithin (l : Launch) (D : va_G) (cI : ClassId) (i : Int32) (N : Nat) (hN : N < 2 ^ 31) : MetR l yX1_isWithin wsX1_isWithin rm_0 D [(cI, .int)] [.int i, .int (nI N)] [] (fun r => r = ms_bI (ms_in i N)) := by
  refine rs_R (cc := cX1_isWithin) (maxL := 2) (rty := .boolean) (by decide) rfl (Nat.le_of_ble_eq_true rfl) ?_
  intro p e s m args below meth c Q ls hx hb hml hown hts hP hK hl ret
  have hl : lv_has ls 2 [(0, .int i), (1, .int (nI N))] := hl
  have hP : va_P D vwCl [] s.heap := hP
  refine lv_iload_n hx hb dX1_isWithin_0 rfl (lv_at hl 0 rfl) ?_
  refine lv_if_lt (tgt := 13) hx hb dX1_isWithin_1 (by decide) (fun h1 => ?_) (fun h1 => ?_)
  · refine lv_iconst (v := nI 0) hx hb dX1_isWithin_13 (by decide +kernel) ?_
    exact ret _ _ _ dX1_isWithin_14 (rfl) (ms_bI_f (ms_in_f1 h1))
  · refine lv_iload_n hx hb dX1_isWithin_4 rfl (lv_at hl 0 rfl) ?_
    refine lv_iload_n hx hb dX1_isWithin_5 rfl (lv_at hl 1 rfl) ?_
    refine lv_icmp_ge (tgt := 13) hx hb dX1_isWithin_6 (by decide) (fun h2 => ?_) (fun h2 => ?_)
    · refine lv_iconst (v := nI 0) hx hb dX1_isWithin_13 (by decide +kernel) ?_
      exact ret _ _ _ dX1_isWithin_14 (rfl) (ms_bI_f (ms_in_f2 hN h2))
    · refine lv_iconst (v := nI 1) hx hb dX1_isWithin_9 (by decide +kernel) ?_
      refine lv_goto (tgt := 14) hx hb dX1_isWithin_10 (by decide) ?_
      exact ret _ _ _ dX1_isWithin_14 (rfl) (ms_bI_t (ms_in_t hN h1 h2))

set_option maxHeartbeats 4000000 in
set_option maxRecDepth 100000 in
theorem c_in (l : Launch) (D : va_G) (cI : ClassId) (v : Int32) (h : Nat) (hh : h + 1 < 2 ^ 31) : MetR l yX2_in wsX2_in rm_0 D [(cI, .int)] [.int v, .int (nI 0), .int (nI h)] [] (fun r => r = ms_bI (ms_in v (h + 1))) := by
  refine rs_R (cc := cX2_in) (maxL := 3) (rty := .boolean) (by decide) rfl (Nat.le_of_ble_eq_true rfl) ?_
  intro p e s m args below meth c Q ls hx hb hml hown hts hP hK hl ret
  have hl : lv_has ls 3 [(0, .int v), (1, .int (nI 0)), (2, .int (nI h))] := hl
  have hP : va_P D vwCl [] s.heap := hP
  refine lv_iload_n hx hb dX2_in_0 rfl (lv_at hl 0 rfl) ?_
  refine lv_iload_n hx hb dX2_in_1 rfl (lv_at hl 1 rfl) ?_
  refine lv_icmp_lt (tgt := 14) hx hb dX2_in_2 (by decide) (fun h1 => ?_) (fun h1 => ?_)
  · refine lv_iconst (v := nI 0) hx hb dX2_in_14 (by decide +kernel) ?_
    exact ret _ _ _ dX2_in_15 (rfl) (ms_bI_f (ms_in2_f1 h1))
  · refine lv_iload_n hx hb dX2_in_5 rfl (lv_at hl 0 rfl) ?_
    refine lv_iload_n hx hb dX2_in_6 rfl (lv_at hl 2 rfl) ?_
    refine lv_icmp_gt (tgt := 14) hx hb dX2_in_7 (by decide) (fun h2 => ?_) (fun h2 => ?_)
    · refine lv_iconst (v := nI 0) hx hb dX2_in_14 (by decide +kernel) ?_
      exact ret _ _ _ dX2_in_15 (rfl) (ms_bI_f (ms_in2_f2 hh h2))
    · refine lv_iconst (v := nI 1) hx hb dX2_in_10 (by decide +kernel) ?_
      refine lv_goto (tgt := 15) hx hb dX2_in_11 (by decide) ?_
      exact ret _ _ _ dX2_in_15 (rfl) (ms_bI_t (ms_in2_t hh h1 h2))

set_option maxHeartbeats 4000000 in
set_option maxRecDepth 100000 in
theorem c_nearest (l : Launch) (D : va_G) (cI : ClassId) (x : Int32) (N : Nat) (h1 : 1 ≤ N) (hN : N < 2 ^ 31) : MetR l yX1_nearest wsX1_nearest rm_1 D [(cI, .int)] [.int x, .int (nI N)] [] (fun r => r = nI (ms_cl x N)) := by
  refine rs_R (cc := cX1_nearest) (maxL := 2) (rty := .int) (by decide) rfl (Nat.le_of_ble_eq_true rfl) ?_
  intro p e s m args below meth c Q ls hx hb hml hown hts hP hK hl ret
  have hl : lv_has ls 2 [(0, .int x), (1, .int (nI N))] := hl
  have hP : va_P D vwCl [] s.heap := hP
  refine lv_iconst (v := nI 1) hx hb dX1_nearest_0 (by decide +kernel) ?_
  refine lv_iload_n hx hb dX1_nearest_1 rfl (lv_at hl 1 rfl) ?_
  refine lv_iload_n hx hb dX1_nearest_2 rfl (lv_at hl 0 rfl) ?_
  refine va_mmin hx hb (hml.trans hl.1.symm) hown (hts (.methodLink RX1 106 Lib.Math.min.name) (by decide +kernel)) (hts (.static Lib.Math.min.name) (by decide +kernel)) (hts (.initialized "java/lang/Math") (by decide +kernel)) (hts (.code Lib.Math.min.name Lib.Math.min.code 2 (some .int)) (by decide +kernel)) (Nat.le_of_ble_eq_true rfl) (Nat.le_of_ble_eq_true rfl) (Nat.le_of_ble_eq_true rfl) (Nat.le_of_ble_eq_true rfl) dX1_nearest_3 ?_
  refine va_mmax hx hb (hml.trans hl.1.symm) hown (hts (.methodLink RX1 23 Lib.Math.max.name) (by decide +kernel)) (hts (.static Lib.Math.max.name) (by decide +kernel)) (hts (.initialized "java/lang/Math") (by decide +kernel)) (hts (.code Lib.Math.max.name Lib.Math.max.code 2 (some .int)) (by decide +kernel)) (Nat.le_of_ble_eq_true rfl) (Nat.le_of_ble_eq_true rfl) (Nat.le_of_ble_eq_true rfl) (Nat.le_of_ble_eq_true rfl) dX1_nearest_6 ?_
  exact ret _ _ _ dX1_nearest_9 (rfl) (ms_near h1 hN)

set_option maxHeartbeats 4000000 in
set_option maxRecDepth 100000 in
theorem c_within (l : Launch) (D : va_G) (cI : ClassId) (x : Int32) (N : Nat) (hN : N < 2 ^ 31) : MetR l yX2_within wsX2_within rm_0 D [(cI, .int)] [.int x, .int (nI N)] [] (fun r => r = nI (ms_cl x N)) := by
  refine rs_R (cc := cX2_within) (maxL := 2) (rty := .int) (by decide) rfl (Nat.le_of_ble_eq_true rfl) ?_
  intro p e s m args below meth c Q ls hx hb hml hown hts hP hK hl ret
  have hl : lv_has ls 2 [(0, .int x), (1, .int (nI N))] := hl
  have hP : va_P D vwCl [] s.heap := hP
  refine lv_iload_n hx hb dX2_within_0 rfl (lv_at hl 0 rfl) ?_
  refine lv_iconst (v := nI 1) hx hb dX2_within_1 (by decide +kernel) ?_
  refine lv_icmp_ge (tgt := 9) hx hb dX2_within_2 (by decide) (fun h1 => ?_) (fun h1 => ?_)
  · rw [ms_le, ms_n1, ms_one] at h1
    refine lv_iload_n hx hb dX2_within_9 rfl (lv_at hl 0 rfl) ?_
    refine lv_iload_n hx hb dX2_within_10 rfl (lv_at hl 1 rfl) ?_
    refine lv_icmp_le (tgt := 18) hx hb dX2_within_11 (by decide) (fun h2 => ?_) (fun h2 => ?_)
    · rw [ms_le, nI_toInt hN] at h2
      refine lv_iload_n hx hb dX2_within_18 rfl (lv_at hl 0 rfl) ?_
      exact ret _ _ _ dX2_within_19 (rfl) (ms_cl_3 hN (by omega) (by omega))
    · rw [ms_le, nI_toInt hN] at h2
      refine lv_iload_n hx hb dX2_within_14 rfl (lv_at hl 1 rfl) ?_
      refine lv_goto (tgt := 19) hx hb dX2_within_15 (by decide) ?_
      exact ret _ _ _ dX2_within_19 (rfl) (ms_cl_2 (by omega) (by omega))
  · rw [ms_le, ms_n1, ms_one] at h1
    refine lv_iconst (v := nI 1) hx hb dX2_within_5 (by decide +kernel) ?_
    refine lv_goto (tgt := 19) hx hb dX2_within_6 (by decide) ?_
    exact ret _ _ _ dX2_within_19 (rfl) (ms_cl_1 (by omega))

set_option maxHeartbeats 4000000 in
set_option maxRecDepth 100000 in
theorem c_placesAhead (l : Launch) (D : va_G) (cI : ClassId) (h a b c0 n i : Nat) (f : Nat → Int32) (hi : i < n) (hn : n < 2 ^ 31) : MetR l yX0_placesAhead wsX0_placesAhead rm_0 D [(cI, .int)] [.ref h, .int (nI i)] [(h, .inr (0, [.ref a, .ref b, .ref c0])), (a, .inl (cI, n, .inl f))] (fun r => r = f i) := by
  refine rs_R (cc := cX0_placesAhead) (maxL := 2) (rty := .int) (by decide) rfl (Nat.le_of_ble_eq_true rfl) ?_
  intro p e s m args below meth c Q ls hx hb hml hown hts hP hK hl ret
  have f7 := hts (.fieldLink RX0 7 "RowSparse$Support" "starts" "[I") (by decide +kernel)
  have hin0 : ∀ w ∈ u_ws RX0 TX0 3, w ∈ wsX0_placesAhead := by decide +kernel
  have hl : lv_has ls 2 [(0, .ref h), (1, .int (nI i))] := hl
  have hP : va_P D vwCl [(h, .inr (0, [.ref a, .ref b, .ref c0])), (a, .inl (cI, n, .inl f))] s.heap := hP
  refine lv_aload_n hx hb dX0_placesAhead_0 rfl (lv_at hl 0 rfl) ?_
  refine va_get (D := D) (ci := 0) (v := .ref a) (C := RX0) (T := TX0) (N := 3) hx hb hts hin0 hown hK hP 0 rfl rfl 0 (by decide) f7 (fun _ h9 => h9) rfl dX0_placesAhead_1 ?_
  refine lv_iload_n hx hb dX0_placesAhead_4 rfl (lv_at hl 1 rfl) ?_
  refine rv_iald hx hb hK hP 1 rfl rfl (hi) (hn) dX0_placesAhead_5 ?_
  exact ret _ _ _ dX0_placesAhead_6 (rfl) (rfl)

set_option maxHeartbeats 4000000 in
set_option maxRecDepth 100000 in
theorem c_column (l : Launch) (D : va_G) (cI : ClassId) (h a b c0 k i : Nat) (g : Nat → Int32) (hi : i < k) (hk : k < 2 ^ 31) : MetR l yX0_column wsX0_column rm_0 D [(cI, .int)] [.ref h, .int (nI i)] [(h, .inr (0, [.ref a, .ref b, .ref c0])), (b, .inl (cI, k, .inl g))] (fun r => r = g i) := by
  refine rs_R (cc := cX0_column) (maxL := 2) (rty := .int) (by decide) rfl (Nat.le_of_ble_eq_true rfl) ?_
  intro p e s m args below meth c Q ls hx hb hml hown hts hP hK hl ret
  have f13 := hts (.fieldLink RX0 13 "RowSparse$Support" "columns" "[I") (by decide +kernel)
  have hin0 : ∀ w ∈ u_ws RX0 TX0 3, w ∈ wsX0_column := by decide +kernel
  have hl : lv_has ls 2 [(0, .ref h), (1, .int (nI i))] := hl
  have hP : va_P D vwCl [(h, .inr (0, [.ref a, .ref b, .ref c0])), (b, .inl (cI, k, .inl g))] s.heap := hP
  refine lv_aload_n hx hb dX0_column_0 rfl (lv_at hl 0 rfl) ?_
  refine va_get (D := D) (ci := 0) (v := .ref b) (C := RX0) (T := TX0) (N := 3) hx hb hts hin0 hown hK hP 0 rfl rfl 1 (by decide) f13 (fun _ h9 => h9) rfl dX0_column_1 ?_
  refine lv_iload_n hx hb dX0_column_4 rfl (lv_at hl 1 rfl) ?_
  refine rv_iald hx hb hK hP 1 rfl rfl (hi) (hk) dX0_column_5 ?_
  exact ret _ _ _ dX0_column_6 (rfl) (rfl)

set_option maxHeartbeats 4000000 in
set_option maxRecDepth 100000 in
theorem c_entry (l : Launch) (D : va_G) (cI : ClassId) (h a b c0 n k : Nat) (f g w : Nat → Int32) (i q0 q1 : Nat) (col : Int32) (hi : i + 1 < n) (hn : n < 2 ^ 31) (hk : k < 2 ^ 31) (e0 : f i = nI q0) (e1 : f (i + 1) = nI q1) (h01 : q0 ≤ q1) (h1k : q1 ≤ k) : MetR l yX0_entry wsX0_entry rm_0 D [(cI, .int)] [.ref h, .int (nI i), .int col] [(h, .inr (0, [.ref a, .ref b, .ref c0])), (a, .inl (cI, n, .inl f)), (b, .inl (cI, k, .inl g)), (c0, .inl (cI, k, .inl w))] (fun r => (∃ q, q0 ≤ q ∧ q < q1 ∧ g q = col ∧ r = w q) ∨ (r = 0 ∧ ∀ q, q0 ≤ q → q < q1 → ¬ g q = col)) := by
  refine rs_R (cc := cX0_entry) (maxL := 5) (rty := .int) (by decide) rfl (Nat.le_of_ble_eq_true rfl) ?_
  intro p e s m args below meth c Q ls hx hb hml hown hts hP hK hl ret
  have f7 := hts (.fieldLink RX0 7 "RowSparse$Support" "starts" "[I") (by decide +kernel)
  have f13 := hts (.fieldLink RX0 13 "RowSparse$Support" "columns" "[I") (by decide +kernel)
  have f16 := hts (.fieldLink RX0 16 "RowSparse$Support" "values" "[I") (by decide +kernel)
  have hin0 : ∀ w ∈ u_ws RX0 TX0 3, w ∈ wsX0_entry := by decide +kernel
  have hl : lv_has ls 5 [(0, .ref h), (1, .int (nI i)), (2, .int col)] := hl
  have hP : va_P D vwCl [(h, .inr (0, [.ref a, .ref b, .ref c0])), (a, .inl (cI, n, .inl f)), (b, .inl (cI, k, .inl g)), (c0, .inl (cI, k, .inl w))] s.heap := hP
  refine lv_aload_n hx hb dX0_entry_0 rfl (lv_at hl 0 rfl) ?_
  refine va_get (D := D) (ci := 0) (v := .ref a) (C := RX0) (T := TX0) (N := 3) hx hb hts hin0 hown hK hP 0 rfl rfl 0 (by decide) f7 (fun _ h9 => h9) rfl dX0_entry_1 ?_
  refine lv_iload_n hx hb dX0_entry_4 rfl (lv_at hl 1 rfl) ?_
  refine lv_iconst (v := nI 1) hx hb dX0_entry_5 (by decide +kernel) ?_
  refine rv_iadd hx hb dX0_entry_6 ?_
  refine rv_iald hx hb hK hP 1 rfl rfl (hi) (hn) dX0_entry_7 ?_
  refine rv_top (e1) ?_
  refine lv_istore_n (lv' := [(3, .int (nI q1)), (0, .ref h), (1, .int (nI i)), (2, .int col)]) hx hb dX0_entry_8 rfl hl (by decide) rfl (fun ls hl => ?_)
  refine lv_aload_n hx hb dX0_entry_9 rfl (lv_at hl 1 rfl) ?_
  refine va_get (D := D) (ci := 0) (v := .ref a) (C := RX0) (T := TX0) (N := 3) hx hb hts hin0 hown hK hP 0 rfl rfl 0 (by decide) f7 (fun _ h9 => h9) rfl dX0_entry_10 ?_
  refine lv_iload_n hx hb dX0_entry_13 rfl (lv_at hl 2 rfl) ?_
  refine rv_iald hx hb hK hP 1 rfl rfl (by omega) (by omega) dX0_entry_14 ?_
  refine rv_top (e0) ?_
  refine lv_istore (lv' := [(4, .int (nI q0)), (3, .int (nI q1)), (0, .ref h), (1, .int (nI i)), (2, .int col)]) hx hb dX0_entry_15 hl (by decide) rfl (fun ls hl => ?_)
  have L17 : ∀ (k17 : Nat) (q : Nat) (ls : Array Slot), q + k17 = q1 → q0 ≤ q → (∀ z, q0 ≤ z → z < q → ¬ g z = col) → lv_has ls 5 [(4, .int (nI q)), (3, .int (nI q1)), (0, .ref h), (1, .int (nI i)), (2, .int col)] → W p l e rm_0 s m args below meth c s.heap [] 0 0 Q (F0 m 17 ls []) := by
    intro k17
    induction k17 with
    | zero =>
      intro q ls hk17 hq0 hno hl
      refine lv_iload hx hb dX0_entry_17 (lv_at hl 0 rfl) ?_
      refine lv_iload_n hx hb dX0_entry_19 rfl (lv_at hl 1 rfl) ?_
      refine rv_ge_t (tgt := 48) hx hb dX0_entry_20 (by decide) (by omega) (by omega) ?_
      refine lv_iconst (v := nI 0) hx hb dX0_entry_48 (by decide +kernel) ?_
      exact ret _ _ _ dX0_entry_49 (rfl) (Or.inr ⟨ms_nz, fun z h1 h2 => hno z h1 (by omega)⟩)
    | succ k17 ih17 =>
      intro q ls hk17 hq0 hno hl
      refine lv_iload hx hb dX0_entry_17 (lv_at hl 0 rfl) ?_
      refine lv_iload_n hx hb dX0_entry_19 rfl (lv_at hl 1 rfl) ?_
      refine rv_ge_f (tgt := 48) hx hb dX0_entry_20 (by decide) (by omega) (by omega) ?_
      refine lv_aload_n hx hb dX0_entry_23 rfl (lv_at hl 2 rfl) ?_
      refine va_get (D := D) (ci := 0) (v := .ref b) (C := RX0) (T := TX0) (N := 3) hx hb hts hin0 hown hK hP 0 rfl rfl 1 (by decide) f13 (fun _ h9 => h9) rfl dX0_entry_24 ?_
      refine lv_iload hx hb dX0_entry_27 (lv_at hl 0 rfl) ?_
      refine rv_iald hx hb hK hP 2 rfl rfl (by omega) (by omega) dX0_entry_29 ?_
      refine lv_iload_n hx hb dX0_entry_30 rfl (lv_at hl 4 rfl) ?_
      refine lv_icmp_ne (tgt := 42) hx hb dX0_entry_31 (by decide) (fun hne => ?_) (fun hne => ?_)
      · refine lv_iinc (v := nI (q + 1)) (lv' := [(4, .int (nI (q + 1))), (3, .int (nI q1)), (0, .ref h), (1, .int (nI i)), (2, .int col)]) hx hb dX0_entry_42 hl (k := 0) rfl (rv_inc _) (by decide) rfl (fun ls hl => ?_)
        refine lv_goto (tgt := 17) hx hb dX0_entry_45 (by decide) ?_
        exact ih17 (q + 1) _ (by omega) (by omega) (fun z h1 h2 => by
                    rcases Nat.lt_or_ge z q with h | h
                    · exact hno z h1 h
                    · have e9 : z = q := by omega
                      subst e9
                      exact hne) (lv_sub hl [0, 1, 2, 3, 4] rfl)
      · refine lv_aload_n hx hb dX0_entry_34 rfl (lv_at hl 2 rfl) ?_
        refine va_get (D := D) (ci := 0) (v := .ref c0) (C := RX0) (T := TX0) (N := 3) hx hb hts hin0 hown hK hP 0 rfl rfl 2 (by decide) f16 (fun _ h9 => h9) rfl dX0_entry_35 ?_
        refine lv_iload hx hb dX0_entry_38 (lv_at hl 0 rfl) ?_
        refine rv_iald hx hb hK hP 3 rfl rfl (by omega) (by omega) dX0_entry_40 ?_
        exact ret _ _ _ dX0_entry_41 (rfl) (Or.inl ⟨q, hq0, by omega, hne, rfl⟩)
  exact L17 _ q0 _ (Nat.add_sub_cancel' h01) (Nat.le_refl _) (fun z h1 h2 => absurd h1 (by omega)) (lv_sub hl [0, 1, 2, 3, 4] rfl)

set_option maxHeartbeats 4000000 in
set_option maxRecDepth 100000 in
theorem c_rowTimes (l : Launch) (D : va_G) (cI : ClassId) (h a b c0 n k : Nat) (f g w : Nat → Int32) (x nx : Nat) (X : Nat → Int32) (J : Nat → Nat) (i q0 q1 : Nat) (hi : i + 1 < n) (hn : n < 2 ^ 31) (hk : k < 2 ^ 31) (e0 : f i = nI q0) (e1 : f (i + 1) = nI q1) (h01 : q0 ≤ q1) (h1k : q1 ≤ k) (hnx : nx < 2 ^ 31) (hJ : ∀ t, t < q1 - q0 → g (q0 + t) = nI (J t) ∧ J t < nx) : MetR l yX0_rowTimes wsX0_rowTimes rm_0 D [(cI, .int)] [.ref h, .int (nI i), .ref x] [(h, .inr (0, [.ref a, .ref b, .ref c0])), (a, .inl (cI, n, .inl f)), (b, .inl (cI, k, .inl g)), (c0, .inl (cI, k, .inl w)), (x, .inl (cI, nx, .inl X))] (fun r => r = ms_sm (fun t => w (q0 + t) * X (J t)) (q1 - q0)) := by
  refine rs_R (cc := cX0_rowTimes) (maxL := 6) (rty := .int) (by decide) rfl (Nat.le_of_ble_eq_true rfl) ?_
  intro p e s m args below meth c Q ls hx hb hml hown hts hP hK hl ret
  have f7 := hts (.fieldLink RX0 7 "RowSparse$Support" "starts" "[I") (by decide +kernel)
  have f13 := hts (.fieldLink RX0 13 "RowSparse$Support" "columns" "[I") (by decide +kernel)
  have f16 := hts (.fieldLink RX0 16 "RowSparse$Support" "values" "[I") (by decide +kernel)
  have hin0 : ∀ w ∈ u_ws RX0 TX0 3, w ∈ wsX0_rowTimes := by decide +kernel
  have hl : lv_has ls 6 [(0, .ref h), (1, .int (nI i)), (2, .ref x)] := hl
  have hP : va_P D vwCl [(h, .inr (0, [.ref a, .ref b, .ref c0])), (a, .inl (cI, n, .inl f)), (b, .inl (cI, k, .inl g)), (c0, .inl (cI, k, .inl w)), (x, .inl (cI, nx, .inl X))] s.heap := hP
  refine lv_iconst (v := nI 0) hx hb dX0_rowTimes_0 (by decide +kernel) ?_
  refine lv_istore_n (lv' := [(3, .int (nI 0)), (0, .ref h), (1, .int (nI i)), (2, .ref x)]) hx hb dX0_rowTimes_1 rfl hl (by decide) rfl (fun ls hl => ?_)
  refine lv_aload_n hx hb dX0_rowTimes_2 rfl (lv_at hl 1 rfl) ?_
  refine va_get (D := D) (ci := 0) (v := .ref a) (C := RX0) (T := TX0) (N := 3) hx hb hts hin0 hown hK hP 0 rfl rfl 0 (by decide) f7 (fun _ h9 => h9) rfl dX0_rowTimes_3 ?_
  refine lv_iload_n hx hb dX0_rowTimes_6 rfl (lv_at hl 2 rfl) ?_
  refine lv_iconst (v := nI 1) hx hb dX0_rowTimes_7 (by decide +kernel) ?_
  refine rv_iadd hx hb dX0_rowTimes_8 ?_
  refine rv_iald hx hb hK hP 1 rfl rfl (hi) (hn) dX0_rowTimes_9 ?_
  refine rv_top (e1) ?_
  refine lv_istore (lv' := [(4, .int (nI q1)), (3, .int (nI 0)), (0, .ref h), (1, .int (nI i)), (2, .ref x)]) hx hb dX0_rowTimes_10 hl (by decide) rfl (fun ls hl => ?_)
  refine lv_aload_n hx hb dX0_rowTimes_12 rfl (lv_at hl 2 rfl) ?_
  refine va_get (D := D) (ci := 0) (v := .ref a) (C := RX0) (T := TX0) (N := 3) hx hb hts hin0 hown hK hP 0 rfl rfl 0 (by decide) f7 (fun _ h9 => h9) rfl dX0_rowTimes_13 ?_
  refine lv_iload_n hx hb dX0_rowTimes_16 rfl (lv_at hl 3 rfl) ?_
  refine rv_iald hx hb hK hP 1 rfl rfl (by omega) (by omega) dX0_rowTimes_17 ?_
  refine rv_top (e0) ?_
  refine lv_istore (lv' := [(5, .int (nI q0)), (4, .int (nI q1)), (3, .int (nI 0)), (0, .ref h), (1, .int (nI i)), (2, .ref x)]) hx hb dX0_rowTimes_18 hl (by decide) rfl (fun ls hl => ?_)
  have L20 : ∀ (k20 : Nat) (t : Nat) (v : Int32) (ls : Array Slot), q0 + t + k20 = q1 → v = ms_sm (fun t => w (q0 + t) * X (J t)) t → lv_has ls 6 [(5, .int (nI (q0 + t))), (4, .int (nI q1)), (3, .int v), (0, .ref h), (1, .int (nI i)), (2, .ref x)] → W p l e rm_0 s m args below meth c s.heap [] 0 0 Q (F0 m 20 ls []) := by
    intro k20
    induction k20 with
    | zero =>
      intro t v ls hk20 hv hl
      refine lv_iload hx hb dX0_rowTimes_20 (lv_at hl 0 rfl) ?_
      refine lv_iload hx hb dX0_rowTimes_22 (lv_at hl 1 rfl) ?_
      refine rv_ge_t (tgt := 53) hx hb dX0_rowTimes_24 (by decide) (by omega) (by omega) ?_
      refine lv_iload_n hx hb dX0_rowTimes_53 rfl (lv_at hl 2 rfl) ?_
      exact ret _ _ _ dX0_rowTimes_54 (rfl) (by rw [hv, show q1 - q0 = t by omega])
    | succ k20 ih20 =>
      intro t v ls hk20 hv hl
      refine lv_iload hx hb dX0_rowTimes_20 (lv_at hl 0 rfl) ?_
      refine lv_iload hx hb dX0_rowTimes_22 (lv_at hl 1 rfl) ?_
      refine rv_ge_f (tgt := 53) hx hb dX0_rowTimes_24 (by decide) (by omega) (by omega) ?_
      refine lv_iload_n hx hb dX0_rowTimes_27 rfl (lv_at hl 2 rfl) ?_
      refine lv_aload_n hx hb dX0_rowTimes_28 rfl (lv_at hl 3 rfl) ?_
      refine va_get (D := D) (ci := 0) (v := .ref c0) (C := RX0) (T := TX0) (N := 3) hx hb hts hin0 hown hK hP 0 rfl rfl 2 (by decide) f16 (fun _ h9 => h9) rfl dX0_rowTimes_29 ?_
      refine lv_iload hx hb dX0_rowTimes_32 (lv_at hl 0 rfl) ?_
      refine rv_iald hx hb hK hP 3 rfl rfl (by omega) (by omega) dX0_rowTimes_34 ?_
      refine lv_aload_n hx hb dX0_rowTimes_35 rfl (lv_at hl 5 rfl) ?_
      refine lv_aload_n hx hb dX0_rowTimes_36 rfl (lv_at hl 3 rfl) ?_
      refine va_get (D := D) (ci := 0) (v := .ref b) (C := RX0) (T := TX0) (N := 3) hx hb hts hin0 hown hK hP 0 rfl rfl 1 (by decide) f13 (fun _ h9 => h9) rfl dX0_rowTimes_37 ?_
      refine lv_iload hx hb dX0_rowTimes_40 (lv_at hl 0 rfl) ?_
      refine rv_iald hx hb hK hP 2 rfl rfl (by omega) (by omega) dX0_rowTimes_42 ?_
      refine rv_top ((hJ t (by omega)).1) ?_
      refine rv_iald hx hb hK hP 4 rfl rfl ((hJ t (by omega)).2) (hnx) dX0_rowTimes_43 ?_
      refine lv_imul hx hb dX0_rowTimes_44 ?_
      refine lv_iadd hx hb dX0_rowTimes_45 ?_
      refine lv_istore_n (lv' := [(3, .int (v + ((w (q0 + t)) * (X (J t))))), (5, .int (nI (q0 + t))), (4, .int (nI q1)), (0, .ref h), (1, .int (nI i)), (2, .ref x)]) hx hb dX0_rowTimes_46 rfl hl (by decide) rfl (fun ls hl => ?_)
      refine lv_iinc (v := nI ((q0 + t) + 1)) (lv' := [(5, .int (nI ((q0 + t) + 1))), (3, .int (v + ((w (q0 + t)) * (X (J t))))), (4, .int (nI q1)), (0, .ref h), (1, .int (nI i)), (2, .ref x)]) hx hb dX0_rowTimes_47 hl (k := 1) rfl (rv_inc _) (by decide) rfl (fun ls hl => ?_)
      refine lv_goto (tgt := 20) hx hb dX0_rowTimes_50 (by decide) ?_
      exact ih20 (t + 1) (v + ((w (q0 + t)) * (X (J t)))) _ (by omega) (by rw [hv]; rfl) (lv_sub hl [0, 2, 1, 3, 4, 5] rfl)
  exact L20 _ 0 (nI 0) _ (Nat.add_sub_cancel' h01) (ms_nz) (lv_sub hl [0, 1, 2, 3, 4, 5] rfl)

set_option maxHeartbeats 4000000 in
set_option maxRecDepth 100000 in
theorem c_addRowTo (l : Launch) (D : va_G) (cI : ClassId) (h a b c0 n k : Nat) (f g w : Nat → Int32) (z nz : Nat) (Z : Nat → Int32) (fac : Int32) (J : Nat → Nat) (i q0 q1 : Nat) (hi : i + 1 < n) (hn : n < 2 ^ 31) (hk : k < 2 ^ 31) (e0 : f i = nI q0) (e1 : f (i + 1) = nI q1) (h01 : q0 ≤ q1) (h1k : q1 ≤ k) (hnz : nz < 2 ^ 31) (hJ : ∀ t, t < q1 - q0 → g (q0 + t) = nI (J t) ∧ J t < nz) : MetV l yX0_addRowTo wsX0_addRowTo rm_0 D [(cI, .int)] [.ref h, .ref z, .int (nI i), .int fac] [(h, .inr (0, [.ref a, .ref b, .ref c0])), (a, .inl (cI, n, .inl f)), (b, .inl (cI, k, .inl g)), (c0, .inl (cI, k, .inl w)), (z, .inl (cI, nz, .inl Z))] (fun u : Nat → Int32 => ∀ j, u j = Z j + ms_sm (fun t => if J t = j then fac * w (q0 + t) else 0) (q1 - q0)) (fun u => [(h, .inr (0, [.ref a, .ref b, .ref c0])), (a, .inl (cI, n, .inl f)), (b, .inl (cI, k, .inl g)), (c0, .inl (cI, k, .inl w)), (z, .inl (cI, nz, .inl u))]) 0 0 := by
  refine rs_V (cc := cX0_addRowTo) (maxL := 6) (by decide) rfl (Nat.le_of_ble_eq_true rfl) ?_
  intro p e s m args below meth c Q A ls hx hb hml hown hts hin hP hK hD hS hA hl ret
  have f7 := hts (.fieldLink RX0 7 "RowSparse$Support" "starts" "[I") (by decide +kernel)
  have f13 := hts (.fieldLink RX0 13 "RowSparse$Support" "columns" "[I") (by decide +kernel)
  have f16 := hts (.fieldLink RX0 16 "RowSparse$Support" "values" "[I") (by decide +kernel)
  have hin0 : ∀ w ∈ u_ws RX0 TX0 3, w ∈ wsX0_addRowTo := by decide +kernel
  have hl : lv_has ls 6 [(0, .ref h), (1, .ref z), (2, .int (nI i)), (3, .int fac)] := hl
  have hP : va_P D vwCl [(h, .inr (0, [.ref a, .ref b, .ref c0])), (a, .inl (cI, n, .inl f)), (b, .inl (cI, k, .inl g)), (c0, .inl (cI, k, .inl w)), (z, .inl (cI, nz, .inl Z))] s.heap := hP
  have hD : va_D A [(h, .inr (0, [.ref a, .ref b, .ref c0])), (a, .inl (cI, n, .inl f)), (b, .inl (cI, k, .inl g)), (c0, .inl (cI, k, .inl w)), (z, .inl (cI, nz, .inl Z))] := hD
  refine lv_aload_n hx hb dX0_addRowTo_0 rfl (lv_at hl 0 rfl) ?_
  refine va_get (D := D) (ci := 0) (v := .ref a) (C := RX0) (T := TX0) (N := 3) hx hb hts hin0 hown hK hP 0 rfl rfl 0 (by decide) f7 (fun _ h9 => h9) rfl dX0_addRowTo_1 ?_
  refine lv_iload_n hx hb dX0_addRowTo_4 rfl (lv_at hl 2 rfl) ?_
  refine lv_iconst (v := nI 1) hx hb dX0_addRowTo_5 (by decide +kernel) ?_
  refine rv_iadd hx hb dX0_addRowTo_6 ?_
  refine rv_iald hx hb hK hP 1 rfl rfl (hi) (hn) dX0_addRowTo_7 ?_
  refine rv_top (e1) ?_
  refine lv_istore (lv' := [(4, .int (nI q1)), (0, .ref h), (1, .ref z), (2, .int (nI i)), (3, .int fac)]) hx hb dX0_addRowTo_8 hl (by decide) rfl (fun ls hl => ?_)
  refine lv_aload_n hx hb dX0_addRowTo_10 rfl (lv_at hl 1 rfl) ?_
  refine va_get (D := D) (ci := 0) (v := .ref a) (C := RX0) (T := TX0) (N := 3) hx hb hts hin0 hown hK hP 0 rfl rfl 0 (by decide) f7 (fun _ h9 => h9) rfl dX0_addRowTo_11 ?_
  refine lv_iload_n hx hb dX0_addRowTo_14 rfl (lv_at hl 3 rfl) ?_
  refine rv_iald hx hb hK hP 1 rfl rfl (by omega) (by omega) dX0_addRowTo_15 ?_
  refine rv_top (e0) ?_
  refine lv_istore (lv' := [(5, .int (nI q0)), (4, .int (nI q1)), (0, .ref h), (1, .ref z), (2, .int (nI i)), (3, .int fac)]) hx hb dX0_addRowTo_16 hl (by decide) rfl (fun ls hl => ?_)
  have L18 : ∀ (k18 : Nat) (t : Nat) (Z1 : Nat → Int32) (H : Heap) (locs : List Loc) (ls : Array Slot), q0 + t + k18 = q1 → (∀ j, Z1 j = Z j + ms_sm (fun t => if J t = j then fac * w (q0 + t) else 0) t) → va_P D vwCl [(h, .inr (0, [.ref a, .ref b, .ref c0])), (a, .inl (cI, n, .inl f)), (b, .inl (cI, k, .inl g)), (c0, .inl (cI, k, .inl w)), (z, .inl (cI, nz, .inl Z1))] H → va_D A [(h, .inr (0, [.ref a, .ref b, .ref c0])), (a, .inl (cI, n, .inl f)), (b, .inl (cI, k, .inl g)), (c0, .inl (cI, k, .inl w)), (z, .inl (cI, nz, .inl Z1))] → va_S A s.heap H locs → lv_has ls 6 [(5, .int (nI (q0 + t))), (4, .int (nI q1)), (0, .ref h), (1, .ref z), (2, .int (nI i)), (3, .int fac)] → W p l e rm_0 s m args below meth c H locs 0 0 Q (F0 m 18 ls []) := by
    intro k18
    induction k18 with
    | zero =>
      intro t Z1 H locs ls hk18 hZ hP hD hS hl
      refine lv_iload hx hb dX0_addRowTo_18 (lv_at hl 0 rfl) ?_
      refine lv_iload hx hb dX0_addRowTo_20 (lv_at hl 1 rfl) ?_
      refine rv_ge_t (tgt := 52) hx hb dX0_addRowTo_22 (by decide) (by omega) (by omega) ?_
      exact ret _ _ _ _ Z1 dX0_addRowTo_52 (by rw [show q1 - q0 = t by omega]; exact hZ) (hP.sub [0, 1, 2, 3, 4] rfl) (hD.sub [0, 1, 2, 3, 4] (by decide) rfl) hS
    | succ k18 ih18 =>
      intro t Z1 H locs ls hk18 hZ hP hD hS hl
      refine lv_iload hx hb dX0_addRowTo_18 (lv_at hl 0 rfl) ?_
      refine lv_iload hx hb dX0_addRowTo_20 (lv_at hl 1 rfl) ?_
      refine rv_ge_f (tgt := 52) hx hb dX0_addRowTo_22 (by decide) (by omega) (by omega) ?_
      refine lv_aload_n hx hb dX0_addRowTo_25 rfl (lv_at hl 3 rfl) ?_
      refine lv_aload_n hx hb dX0_addRowTo_26 rfl (lv_at hl 2 rfl) ?_
      refine va_get (D := D) (ci := 0) (v := .ref b) (C := RX0) (T := TX0) (N := 3) hx hb hts hin0 hown hK hP 0 rfl rfl 1 (by decide) f13 (fun _ h9 => h9) rfl dX0_addRowTo_27 ?_
      refine lv_iload hx hb dX0_addRowTo_30 (lv_at hl 0 rfl) ?_
      refine rv_iald hx hb hK hP 2 rfl rfl (by omega) (by omega) dX0_addRowTo_32 ?_
      refine rv_top ((hJ t (by omega)).1) ?_
      refine lv_dup2_11 hx hb dX0_addRowTo_33 rfl rfl ?_
      refine rv_iald hx hb hK hP 4 rfl rfl ((hJ t (by omega)).2) (hnz) dX0_addRowTo_34 ?_
      refine lv_iload_n hx hb dX0_addRowTo_35 rfl (lv_at hl 5 rfl) ?_
      refine lv_aload_n hx hb dX0_addRowTo_36 rfl (lv_at hl 2 rfl) ?_
      refine va_get (D := D) (ci := 0) (v := .ref c0) (C := RX0) (T := TX0) (N := 3) hx hb hts hin0 hown hK hP 0 rfl rfl 2 (by decide) f16 (fun _ h9 => h9) rfl dX0_addRowTo_37 ?_
      refine lv_iload hx hb dX0_addRowTo_40 (lv_at hl 0 rfl) ?_
      refine rv_iald hx hb hK hP 3 rfl rfl (by omega) (by omega) dX0_addRowTo_42 ?_
      refine lv_imul hx hb dX0_addRowTo_43 ?_
      refine lv_iadd hx hb dX0_addRowTo_44 ?_
      refine rv_iast hx hb hK hP hD hS 4 rfl rfl ((hJ t (by omega)).2) (hnz) dX0_addRowTo_45 (fun H locs hP hD hS => ?_)
      have hP : va_P D vwCl [(h, .inr (0, [.ref a, .ref b, .ref c0])), (a, .inl (cI, n, .inl f)), (b, .inl (cI, k, .inl g)), (c0, .inl (cI, k, .inl w)), (z, .inl (cI, nz, .inl (upd Z1 (J t) ((Z1 (J t)) + (fac * (w (q0 + t)))))))] H := hP
      have hD : va_D A [(h, .inr (0, [.ref a, .ref b, .ref c0])), (a, .inl (cI, n, .inl f)), (b, .inl (cI, k, .inl g)), (c0, .inl (cI, k, .inl w)), (z, .inl (cI, nz, .inl (upd Z1 (J t) ((Z1 (J t)) + (fac * (w (q0 + t)))))))] := hD
      refine lv_iinc (v := nI ((q0 + t) + 1)) (lv' := [(5, .int (nI ((q0 + t) + 1))), (4, .int (nI q1)), (0, .ref h), (1, .ref z), (2, .int (nI i)), (3, .int fac)]) hx hb dX0_addRowTo_46 hl (k := 0) rfl (rv_inc _) (by decide) rfl (fun ls hl => ?_)
      refine lv_goto (tgt := 18) hx hb dX0_addRowTo_49 (by decide) ?_
      exact ih18 (t + 1) (upd Z1 (J t) ((Z1 (J t)) + (fac * (w (q0 + t))))) _ _ _ (by omega) (ms_acc (G := fun t => fac * w (q0 + t)) hZ) (hP.sub [0, 1, 2, 3, 4] rfl) (hD.sub [0, 1, 2, 3, 4] (by decide) rfl) hS (lv_sub hl [0, 1, 2, 3, 4, 5] rfl)
  exact L18 _ 0 Z _ _ _ (Nat.add_sub_cancel' h01) (fun j => (Int32.add_zero _).symm) (hP.sub [0, 1, 2, 3, 4] rfl) (hD.sub [0, 1, 2, 3, 4] (by decide) rfl) hS (lv_sub hl [0, 1, 2, 3, 4, 5] rfl)

set_option maxHeartbeats 4000000 in
set_option maxRecDepth 100000 in
theorem c_putRow (l : Launch) (D : va_G) (cI : ClassId) (h a b c0 n k : Nat) (f g w : Nat → Int32) (z S : Nat) (Z : Nat → Int32) (i q0 : Nat) (hi : i + 1 < n) (hn : n < 2 ^ 31) (hk : k < 2 ^ 31) (hS : S < 2 ^ 31) (e0 : f i = nI q0) (h0 : q0 ≤ k) : MetI l yX0_putRow wsX0_putRow rm_0 D [(cI, .int)] [.ref h, .int (nI i), .ref z] [(h, .inr (0, [.ref a, .ref b, .ref c0])), (a, .inl (cI, n, .inl f)), (b, .inl (cI, k, .inl g)), (c0, .inl (cI, k, .inl w)), (z, .inl (cI, S, .inl Z))] (fun (r : Int32) (u : (Nat → Int32) × (Nat → Int32) × (Nat → Int32)) => (q0 + ms_rc Z S ≤ k ∧ r = 1 ∧ u.1 = upd f (i + 1) (nI (q0 + ms_rc Z S)) ∧ (∀ j, j < S → ¬ Z j = 0 → u.2.1 (q0 + ms_rc Z j) = nI j ∧ u.2.2 (q0 + ms_rc Z j) = Z j) ∧ (∀ q, q < q0 → u.2.1 q = g q ∧ u.2.2 q = w q)) ∨ (k < q0 + ms_rc Z S ∧ r = 0 ∧ u.1 = f)) (fun u => [(h, .inr (0, [.ref a, .ref b, .ref c0])), (a, .inl (cI, n, .inl u.1)), (b, .inl (cI, k, .inl u.2.1)), (c0, .inl (cI, k, .inl u.2.2)), (z, .inl (cI, S, .inl Z))]) 0 0 := by
  refine rs_I (cc := cX0_putRow) (maxL := 5) (rty := .boolean) (by decide) rfl (Nat.le_of_ble_eq_true rfl) ?_
  intro p e s m args below meth c Q A ls hx hb hml hown hts hP hK hD hS hA hl ret
  have f7 := hts (.fieldLink RX0 7 "RowSparse$Support" "starts" "[I") (by decide +kernel)
  have f13 := hts (.fieldLink RX0 13 "RowSparse$Support" "columns" "[I") (by decide +kernel)
  have f16 := hts (.fieldLink RX0 16 "RowSparse$Support" "values" "[I") (by decide +kernel)
  have hin0 : ∀ w ∈ u_ws RX0 TX0 3, w ∈ wsX0_putRow := by decide +kernel
  have hl : lv_has ls 5 [(0, .ref h), (1, .int (nI i)), (2, .ref z)] := hl
  have hP : va_P D vwCl [(h, .inr (0, [.ref a, .ref b, .ref c0])), (a, .inl (cI, n, .inl f)), (b, .inl (cI, k, .inl g)), (c0, .inl (cI, k, .inl w)), (z, .inl (cI, S, .inl Z))] s.heap := hP
  have hD : va_D A [(h, .inr (0, [.ref a, .ref b, .ref c0])), (a, .inl (cI, n, .inl f)), (b, .inl (cI, k, .inl g)), (c0, .inl (cI, k, .inl w)), (z, .inl (cI, S, .inl Z))] := hD
  refine lv_aload_n hx hb dX0_putRow_0 rfl (lv_at hl 0 rfl) ?_
  refine va_get (D := D) (ci := 0) (v := .ref a) (C := RX0) (T := TX0) (N := 3) hx hb hts hin0 hown hK hP 0 rfl rfl 0 (by decide) f7 (fun _ h9 => h9) rfl dX0_putRow_1 ?_
  refine lv_iload_n hx hb dX0_putRow_4 rfl (lv_at hl 1 rfl) ?_
  refine rv_iald hx hb hK hP 1 rfl rfl (by omega) (by omega) dX0_putRow_5 ?_
  refine rv_top (e0) ?_
  refine lv_istore_n (lv' := [(3, .int (nI q0)), (0, .ref h), (1, .int (nI i)), (2, .ref z)]) hx hb dX0_putRow_6 rfl hl (by decide) rfl (fun ls hl => ?_)
  refine lv_iconst (v := nI 0) hx hb dX0_putRow_7 (by decide +kernel) ?_
  refine lv_istore (lv' := [(4, .int (nI 0)), (3, .int (nI q0)), (0, .ref h), (1, .int (nI i)), (2, .ref z)]) hx hb dX0_putRow_8 hl (by decide) rfl (fun ls hl => ?_)
  have L10 : ∀ (k10 : Nat) (j : Nat) (g1 : Nat → Int32) (w1 : Nat → Int32) (H : Heap) (locs : List Loc) (ls : Array Slot), j + k10 = S → q0 + ms_rc Z j ≤ k → (∀ t, t < j → ¬ Z t = 0 → g1 (q0 + ms_rc Z t) = nI t ∧ w1 (q0 + ms_rc Z t) = Z t) → (∀ q, q < q0 → g1 q = g q ∧ w1 q = w q) → va_P D vwCl [(h, .inr (0, [.ref a, .ref b, .ref c0])), (a, .inl (cI, n, .inl f)), (b, .inl (cI, k, .inl g1)), (c0, .inl (cI, k, .inl w1)), (z, .inl (cI, S, .inl Z))] H → va_D A [(h, .inr (0, [.ref a, .ref b, .ref c0])), (a, .inl (cI, n, .inl f)), (b, .inl (cI, k, .inl g1)), (c0, .inl (cI, k, .inl w1)), (z, .inl (cI, S, .inl Z))] → va_S A s.heap H locs → lv_has ls 5 [(4, .int (nI j)), (3, .int (nI (q0 + ms_rc Z j))), (0, .ref h), (1, .int (nI i)), (2, .ref z)] → W p l e rm_0 s m args below meth c H locs 0 0 Q (F0 m 10 ls []) := by
    intro k10
    induction k10 with
    | zero =>
      intro j g1 w1 H locs ls hk10 hk1 hg ho hP hD hS hl
      refine lv_iload hx hb dX0_putRow_10 (lv_at hl 0 rfl) ?_
      refine lv_aload_n hx hb dX0_putRow_12 rfl (lv_at hl 4 rfl) ?_
      refine va_alen (v := nI S) hx hb hK hP 4 0 rfl (ty := .int) rfl rfl dX0_putRow_13 ?_
      refine rv_ge_t (tgt := 62) hx hb dX0_putRow_14 (by decide) (by omega) (by omega) ?_
      refine lv_aload_n hx hb dX0_putRow_62 rfl (lv_at hl 2 rfl) ?_
      refine va_get (D := D) (ci := 0) (v := .ref a) (C := RX0) (T := TX0) (N := 3) hx hb hts hin0 hown hK hP 0 rfl rfl 0 (by decide) f7 (fun _ h9 => h9) rfl dX0_putRow_63 ?_
      refine lv_iload_n hx hb dX0_putRow_66 rfl (lv_at hl 3 rfl) ?_
      refine lv_iconst (v := nI 1) hx hb dX0_putRow_67 (by decide +kernel) ?_
      refine rv_iadd hx hb dX0_putRow_68 ?_
      refine lv_iload_n hx hb dX0_putRow_69 rfl (lv_at hl 1 rfl) ?_
      refine rv_iast hx hb hK hP hD hS 1 rfl rfl (by omega) (by omega) dX0_putRow_70 (fun H locs hP hD hS => ?_)
      have hP : va_P D vwCl [(h, .inr (0, [.ref a, .ref b, .ref c0])), (a, .inl (cI, n, .inl (upd f (i + 1) (nI (q0 + ms_rc Z j))))), (b, .inl (cI, k, .inl g1)), (c0, .inl (cI, k, .inl w1)), (z, .inl (cI, S, .inl Z))] H := hP
      have hD : va_D A [(h, .inr (0, [.ref a, .ref b, .ref c0])), (a, .inl (cI, n, .inl (upd f (i + 1) (nI (q0 + ms_rc Z j))))), (b, .inl (cI, k, .inl g1)), (c0, .inl (cI, k, .inl w1)), (z, .inl (cI, S, .inl Z))] := hD
      refine lv_iconst (v := nI 1) hx hb dX0_putRow_71 (by decide +kernel) ?_
      exact ret _ _ _ _ _ (upd f (i + 1) (nI (q0 + ms_rc Z j)), g1, w1) dX0_putRow_72 (rfl) (by rw [show S = j by omega]; exact Or.inl ⟨hk1, ms_n1, rfl, hg, ho⟩) (hP.sub [0, 1, 2, 3, 4] rfl) (hD.sub [0, 1, 2, 3, 4] (by decide) rfl) hS
    | succ k10 ih10 =>
      intro j g1 w1 H locs ls hk10 hk1 hg ho hP hD hS hl
      refine lv_iload hx hb dX0_putRow_10 (lv_at hl 0 rfl) ?_
      refine lv_aload_n hx hb dX0_putRow_12 rfl (lv_at hl 4 rfl) ?_
      refine va_alen (v := nI S) hx hb hK hP 4 0 rfl (ty := .int) rfl rfl dX0_putRow_13 ?_
      refine rv_ge_f (tgt := 62) hx hb dX0_putRow_14 (by decide) (by omega) (by omega) ?_
      refine lv_aload_n hx hb dX0_putRow_17 rfl (lv_at hl 4 rfl) ?_
      refine lv_iload hx hb dX0_putRow_18 (lv_at hl 0 rfl) ?_
      refine rv_iald hx hb hK hP 4 rfl rfl (by omega) (by omega) dX0_putRow_20 ?_
      refine lv_if_eq (tgt := 56) hx hb dX0_putRow_21 (by decide) (fun hz => ?_) (fun hz => ?_)
      · refine lv_iinc (v := nI (j + 1)) (lv' := [(4, .int (nI (j + 1))), (3, .int (nI (q0 + ms_rc Z j))), (0, .ref h), (1, .int (nI i)), (2, .ref z)]) hx hb dX0_putRow_56 hl (k := 0) rfl (rv_inc _) (by decide) rfl (fun ls hl => ?_)
        refine lv_goto (tgt := 10) hx hb dX0_putRow_59 (by decide) ?_
        have ez : ms_rc Z (j + 1) = ms_rc Z j := ms_rc_no hz
        rw [← ez] at hl
        exact ih10 (j + 1) g1 w1 _ _ _ (by omega) (by rw [ez]; exact hk1) (ms_put_skip hz hg) (ho) (hP.sub [0, 1, 2, 3, 4] rfl) (hD.sub [0, 1, 2, 3, 4] (by decide) rfl) hS (lv_sub hl [0, 1, 2, 3, 4] rfl)
      · refine lv_iload_n hx hb dX0_putRow_24 rfl (lv_at hl 1 rfl) ?_
        refine lv_aload_n hx hb dX0_putRow_25 rfl (lv_at hl 2 rfl) ?_
        refine va_get (D := D) (ci := 0) (v := .ref b) (C := RX0) (T := TX0) (N := 3) hx hb hts hin0 hown hK hP 0 rfl rfl 1 (by decide) f13 (fun _ h9 => h9) rfl dX0_putRow_26 ?_
        refine va_alen (v := nI k) hx hb hK hP 2 0 rfl (ty := .int) rfl rfl dX0_putRow_29 ?_
        refine rv_lt (tgt := 35) hx hb dX0_putRow_30 (by decide) (by omega) (by omega) (fun hlt => ?_) (fun hlt => ?_)
        · refine lv_aload_n hx hb dX0_putRow_35 rfl (lv_at hl 2 rfl) ?_
          refine va_get (D := D) (ci := 0) (v := .ref b) (C := RX0) (T := TX0) (N := 3) hx hb hts hin0 hown hK hP 0 rfl rfl 1 (by decide) f13 (fun _ h9 => h9) rfl dX0_putRow_36 ?_
          refine lv_iload_n hx hb dX0_putRow_39 rfl (lv_at hl 1 rfl) ?_
          refine lv_iload hx hb dX0_putRow_40 (lv_at hl 0 rfl) ?_
          refine rv_iast hx hb hK hP hD hS 2 rfl rfl (by omega) (by omega) dX0_putRow_42 (fun H locs hP hD hS => ?_)
          have hP : va_P D vwCl [(h, .inr (0, [.ref a, .ref b, .ref c0])), (a, .inl (cI, n, .inl f)), (b, .inl (cI, k, .inl (upd g1 (q0 + ms_rc Z j) (nI j)))), (c0, .inl (cI, k, .inl w1)), (z, .inl (cI, S, .inl Z))] H := hP
          have hD : va_D A [(h, .inr (0, [.ref a, .ref b, .ref c0])), (a, .inl (cI, n, .inl f)), (b, .inl (cI, k, .inl (upd g1 (q0 + ms_rc Z j) (nI j)))), (c0, .inl (cI, k, .inl w1)), (z, .inl (cI, S, .inl Z))] := hD
          refine lv_aload_n hx hb dX0_putRow_43 rfl (lv_at hl 2 rfl) ?_
          refine va_get (D := D) (ci := 0) (v := .ref c0) (C := RX0) (T := TX0) (N := 3) hx hb hts hin0 hown hK hP 0 rfl rfl 2 (by decide) f16 (fun _ h9 => h9) rfl dX0_putRow_44 ?_
          refine lv_iload_n hx hb dX0_putRow_47 rfl (lv_at hl 1 rfl) ?_
          refine lv_aload_n hx hb dX0_putRow_48 rfl (lv_at hl 4 rfl) ?_
          refine lv_iload hx hb dX0_putRow_49 (lv_at hl 0 rfl) ?_
          refine rv_iald hx hb hK hP 4 rfl rfl (by omega) (by omega) dX0_putRow_51 ?_
          refine rv_iast hx hb hK hP hD hS 3 rfl rfl (by omega) (by omega) dX0_putRow_52 (fun H locs hP hD hS => ?_)
          have hP : va_P D vwCl [(h, .inr (0, [.ref a, .ref b, .ref c0])), (a, .inl (cI, n, .inl f)), (b, .inl (cI, k, .inl (upd g1 (q0 + ms_rc Z j) (nI j)))), (c0, .inl (cI, k, .inl (upd w1 (q0 + ms_rc Z j) (Z j)))), (z, .inl (cI, S, .inl Z))] H := hP
          have hD : va_D A [(h, .inr (0, [.ref a, .ref b, .ref c0])), (a, .inl (cI, n, .inl f)), (b, .inl (cI, k, .inl (upd g1 (q0 + ms_rc Z j) (nI j)))), (c0, .inl (cI, k, .inl (upd w1 (q0 + ms_rc Z j) (Z j)))), (z, .inl (cI, S, .inl Z))] := hD
          refine lv_iinc (v := nI ((q0 + ms_rc Z j) + 1)) (lv' := [(3, .int (nI ((q0 + ms_rc Z j) + 1))), (4, .int (nI j)), (0, .ref h), (1, .int (nI i)), (2, .ref z)]) hx hb dX0_putRow_53 hl (k := 1) rfl (rv_inc _) (by decide) rfl (fun ls hl => ?_)
          refine lv_iinc (v := nI (j + 1)) (lv' := [(4, .int (nI (j + 1))), (3, .int (nI ((q0 + ms_rc Z j) + 1))), (0, .ref h), (1, .int (nI i)), (2, .ref z)]) hx hb dX0_putRow_56 hl (k := 1) rfl (rv_inc _) (by decide) rfl (fun ls hl => ?_)
          refine lv_goto (tgt := 10) hx hb dX0_putRow_59 (by decide) ?_
          have ez : q0 + ms_rc Z j + 1 = q0 + ms_rc Z (j + 1) := by rw [ms_rc_yes hz]; rfl
          rw [ez] at hl
          exact ih10 (j + 1) (upd g1 (q0 + ms_rc Z j) (nI j)) (upd w1 (q0 + ms_rc Z j) (Z j)) _ _ _ (by omega) (by omega) ((ms_put_step hz hg ho).1) ((ms_put_step hz hg ho).2) (hP.sub [0, 1, 2, 3, 4] rfl) (hD.sub [0, 1, 2, 3, 4] (by decide) rfl) hS (lv_sub hl [0, 1, 2, 3, 4] rfl)
        · refine lv_iconst (v := nI 0) hx hb dX0_putRow_33 (by decide +kernel) ?_
          exact ret _ _ _ _ _ (f, g1, w1) dX0_putRow_34 (rfl) (Or.inr ⟨by have e9 := ms_rc_lt (show j < S by omega) hz; omega, ms_nz, rfl⟩) (hP.sub [0, 1, 2, 3, 4] rfl) (hD.sub [0, 1, 2, 3, 4] (by decide) rfl) hS
  exact L10 _ 0 g w _ _ _ (Nat.zero_add _) (h0) (fun t ht => absurd ht (Nat.not_lt_zero t)) (fun q _ => ⟨rfl, rfl⟩) (hP.sub [0, 1, 2, 3, 4] rfl) (hD.sub [0, 1, 2, 3, 4] (by decide) rfl) hS (lv_sub hl [0, 1, 2, 3, 4] rfl)
end
section
theorem ms_fillstep {f : Nat → Int32} {v : Int32} {j : Nat} (hf : ∀ t, t < j → f t = v) : ∀ t, t < j + 1 → upd f j v t = v := by
  intro t ht
  by_cases e : t = j
  · subst e
    exact pk_us
  · rw [pk_un e]
    exact hf t (by omega)
theorem ms_accskip {Z1 Z G : Nat → Int32} {J : Nat → Nat} {t : Nat} (h0 : G t = 0) (hZ : ∀ j, Z1 j = Z j + ms_sm (fun t => if J t = j then G t else 0) t) : ∀ j, Z1 j = Z j + ms_sm (fun t => if J t = j then G t else 0) (t + 1) := by
  intro j
  rw [ms_sm, h0, hZ j]
  have e : (if J t = j then (0 : Int32) else 0) = 0 := by split <;> rfl
  rw [e, Int32.add_zero]
theorem ms_accif {Z1 Z G : Nat → Int32} {J : Nat → Nat} {t : Nat} {x : Int32} (h0 : G t = x) (hZ : ∀ j, Z1 j = Z j + ms_sm (fun t => if J t = j then G t else 0) t) : ∀ j, upd Z1 (J t) (Z1 (J t) + x) j = Z j + ms_sm (fun t => if J t = j then G t else 0) (t + 1) := by
  subst h0
  exact ms_acc hZ
end
section
set_option maxHeartbeats 4000000 in
set_option maxRecDepth 100000 in
theorem c_addSquaredRowTo (l : Launch) (D : va_G) (cI : ClassId) (h a b c0 k z S R i : Nat) (f g w Z : Nat → Int32) (M0 : Nat → Nat → Int32) (hs : ms_Sup k S R M0 f g w) (hi : i < R) (hR : R ≤ S) (hS : S + 1 < 2 ^ 31) (hk : k < 2 ^ 31) (hq : ∀ i j, ¬ M0 i j = 0 → j < R) : MetV l yX0_addSquaredRowTo wsX0_addSquaredRowTo rm_1 D [(cI, .int)] [.ref h, .ref z, .int (nI i)] [(h, .inr (0, [.ref a, .ref b, .ref c0])), (a, .inl (cI, S + 1, .inl f)), (b, .inl (cI, k, .inl g)), (c0, .inl (cI, k, .inl w)), (z, .inl (cI, S, .inl Z))] (fun u : Nat → Int32 => ∀ j, j < S → u j = Z j + ms_sm (fun k => M0 i k * M0 k j) S) (fun u => [(h, .inr (0, [.ref a, .ref b, .ref c0])), (a, .inl (cI, S + 1, .inl f)), (b, .inl (cI, k, .inl g)), (c0, .inl (cI, k, .inl w)), (z, .inl (cI, S, .inl u))]) 0 0 := by
  refine rs_V (cc := cX0_addSquaredRowTo) (maxL := 5) (by decide) rfl (Nat.le_of_ble_eq_true rfl) ?_
  intro p e s m args below meth c Q A ls hx hb hml hown hts hin hP hK hD hS hA hl ret
  have f7 := hts (.fieldLink RX0 7 "RowSparse$Support" "starts" "[I") (by decide +kernel)
  have f13 := hts (.fieldLink RX0 13 "RowSparse$Support" "columns" "[I") (by decide +kernel)
  have f16 := hts (.fieldLink RX0 16 "RowSparse$Support" "values" "[I") (by decide +kernel)
  have hin0 : ∀ w ∈ u_ws RX0 TX0 3, w ∈ wsX0_addSquaredRowTo := by decide +kernel
  have hl : lv_has ls 5 [(0, .ref h), (1, .ref z), (2, .int (nI i))] := hl
  have hP : va_P D vwCl [(h, .inr (0, [.ref a, .ref b, .ref c0])), (a, .inl (cI, S + 1, .inl f)), (b, .inl (cI, k, .inl g)), (c0, .inl (cI, k, .inl w)), (z, .inl (cI, S, .inl Z))] s.heap := hP
  have hD : va_D A [(h, .inr (0, [.ref a, .ref b, .ref c0])), (a, .inl (cI, S + 1, .inl f)), (b, .inl (cI, k, .inl g)), (c0, .inl (cI, k, .inl w)), (z, .inl (cI, S, .inl Z))] := hD
  obtain ⟨e0, e1, h01, h1k, e2⟩ := ms_Sq hs hi
  refine lv_aload_n hx hb dX0_addSquaredRowTo_0 rfl (lv_at hl 0 rfl) ?_
  refine va_get (D := D) (ci := 0) (v := .ref a) (C := RX0) (T := TX0) (N := 3) hx hb hts hin0 hown hK hP 0 rfl rfl 0 (by decide) f7 (fun _ h9 => h9) rfl dX0_addSquaredRowTo_1 ?_
  refine lv_iload_n hx hb dX0_addSquaredRowTo_4 rfl (lv_at hl 2 rfl) ?_
  refine lv_iconst (v := nI 1) hx hb dX0_addSquaredRowTo_5 (by decide +kernel) ?_
  refine rv_iadd hx hb dX0_addSquaredRowTo_6 ?_
  refine rv_iald hx hb hK hP 1 rfl rfl (by omega) (by omega) dX0_addSquaredRowTo_7 ?_
  refine rv_top (e1) ?_
  refine lv_istore_n (lv' := [(3, .int (nI (ms_sc M0 S (i + 1)))), (0, .ref h), (1, .ref z), (2, .int (nI i))]) hx hb dX0_addSquaredRowTo_8 rfl hl (by decide) rfl (fun ls hl => ?_)
  refine lv_aload_n hx hb dX0_addSquaredRowTo_9 rfl (lv_at hl 1 rfl) ?_
  refine va_get (D := D) (ci := 0) (v := .ref a) (C := RX0) (T := TX0) (N := 3) hx hb hts hin0 hown hK hP 0 rfl rfl 0 (by decide) f7 (fun _ h9 => h9) rfl dX0_addSquaredRowTo_10 ?_
  refine lv_iload_n hx hb dX0_addSquaredRowTo_13 rfl (lv_at hl 3 rfl) ?_
  refine rv_iald hx hb hK hP 1 rfl rfl (by omega) (by omega) dX0_addSquaredRowTo_14 ?_
  refine rv_top (e0) ?_
  refine lv_istore (lv' := [(4, .int (nI (ms_sc M0 S i))), (3, .int (nI (ms_sc M0 S (i + 1)))), (0, .ref h), (1, .ref z), (2, .int (nI i))]) hx hb dX0_addSquaredRowTo_15 hl (by decide) rfl (fun ls hl => ?_)
  have L17 : ∀ (k17 : Nat) (t : Nat) (Z1 : Nat → Int32) (H : Heap) (locs : List Loc) (ls : Array Slot), ms_sc M0 S i + t + k17 = ms_sc M0 S (i + 1) → (∀ j, j < S → Z1 j = Z j + ms_sm (fun t => w (ms_sc M0 S i + t) * M0 (ms_J g (ms_sc M0 S i) t) j) t) → va_P D vwCl [(h, .inr (0, [.ref a, .ref b, .ref c0])), (a, .inl (cI, S + 1, .inl f)), (b, .inl (cI, k, .inl g)), (c0, .inl (cI, k, .inl w)), (z, .inl (cI, S, .inl Z1))] H → va_D A [(h, .inr (0, [.ref a, .ref b, .ref c0])), (a, .inl (cI, S + 1, .inl f)), (b, .inl (cI, k, .inl g)), (c0, .inl (cI, k, .inl w)), (z, .inl (cI, S, .inl Z1))] → va_S A s.heap H locs → lv_has ls 5 [(4, .int (nI (ms_sc M0 S i + t))), (3, .int (nI (ms_sc M0 S (i + 1)))), (0, .ref h), (1, .ref z), (2, .int (nI i))] → W p l e rm_1 s m args below meth c H locs 0 0 Q (F0 m 17 ls []) := by
    intro k17
    induction k17 with
    | zero =>
      intro t Z1 H locs ls hk17 hZ hP hD hS hl
      refine lv_iload hx hb dX0_addSquaredRowTo_17 (lv_at hl 0 rfl) ?_
      refine lv_iload_n hx hb dX0_addSquaredRowTo_19 rfl (lv_at hl 1 rfl) ?_
      refine rv_ge_t (tgt := 48) hx hb dX0_addSquaredRowTo_20 (by decide) (by omega) (by omega) ?_
      exact ret _ _ _ _ Z1 dX0_addSquaredRowTo_48 (ms_sqrow hs (by omega) hi (by rw [show ms_rc (M0 i) S = t by omega]; exact hZ)) (hP.sub [0, 1, 2, 3, 4] rfl) (hD.sub [0, 1, 2, 3, 4] (by decide) rfl) hS
    | succ k17 ih17 =>
      intro t Z1 H locs ls hk17 hZ hP hD hS hl
      obtain ⟨hj1, hj2, hj3, hj4⟩ := ms_Jt hs (by omega) hi (show t < ms_rc (M0 i) S by omega)
      have hj5 := hq i _ hj2
      obtain ⟨p0, p1, p01, p1k, p2⟩ := ms_Sq hs hj5
      refine lv_iload hx hb dX0_addSquaredRowTo_17 (lv_at hl 0 rfl) ?_
      refine lv_iload_n hx hb dX0_addSquaredRowTo_19 rfl (lv_at hl 1 rfl) ?_
      refine rv_ge_f (tgt := 48) hx hb dX0_addSquaredRowTo_20 (by decide) (by omega) (by omega) ?_
      refine lv_aload_n hx hb dX0_addSquaredRowTo_23 rfl (lv_at hl 2 rfl) ?_
      refine lv_aload_n hx hb dX0_addSquaredRowTo_24 rfl (lv_at hl 3 rfl) ?_
      refine lv_aload_n hx hb dX0_addSquaredRowTo_25 rfl (lv_at hl 2 rfl) ?_
      refine va_get (D := D) (ci := 0) (v := .ref b) (C := RX0) (T := TX0) (N := 3) hx hb hts hin0 hown hK hP 0 rfl rfl 1 (by decide) f13 (fun _ h9 => h9) rfl dX0_addSquaredRowTo_26 ?_
      refine lv_iload hx hb dX0_addSquaredRowTo_29 (lv_at hl 0 rfl) ?_
      refine rv_iald hx hb hK hP 2 rfl rfl (by omega) (by omega) dX0_addSquaredRowTo_31 ?_
      refine rv_top (hj3) ?_
      refine lv_aload_n hx hb dX0_addSquaredRowTo_32 rfl (lv_at hl 2 rfl) ?_
      refine va_get (D := D) (ci := 0) (v := .ref c0) (C := RX0) (T := TX0) (N := 3) hx hb hts hin0 hown hK hP 0 rfl rfl 2 (by decide) f16 (fun _ h9 => h9) rfl dX0_addSquaredRowTo_33 ?_
      refine lv_iload hx hb dX0_addSquaredRowTo_36 (lv_at hl 0 rfl) ?_
      refine rv_iald hx hb hK hP 3 rfl rfl (by omega) (by omega) dX0_addSquaredRowTo_38 ?_
      refine rs_cV (As := [.ref z, .int (nI (ms_J g (ms_sc M0 S i) t)), .int (w (ms_sc M0 S i + t))]) (rest := []) (WR := []) ⟨hx, hb, hml, hown, hts⟩ hl.1 (c_addRowTo l D cI h a b c0 (S + 1) k f g w z S Z1 (w (ms_sc M0 S i + t)) (ms_J g (ms_sc M0 S (ms_J g (ms_sc M0 S i) t))) (ms_J g (ms_sc M0 S i) t) (ms_sc M0 S (ms_J g (ms_sc M0 S i) t)) (ms_sc M0 S (ms_J g (ms_sc M0 S i) t + 1)) (by omega) (by omega) hk p0 p1 p01 p1k (by omega) (fun t2 ht2 => ⟨(ms_Jt hs (by omega) hj5 (show t2 < ms_rc (M0 (ms_J g (ms_sc M0 S i) t)) S by omega)).2.2.1, (ms_Jt hs (by omega) hj5 (show t2 < ms_rc (M0 (ms_J g (ms_sc M0 S i) t)) S by omega)).1⟩)) (cwV 3 hts gX0_addSquaredRowTo_X0_addRowTo rfl rfl rfl (by decide +kernel) ⟨Nat.le_of_ble_eq_true rfl, Nat.le_of_ble_eq_true rfl⟩) hK hP hD hS hA [0, 1, 2, 3, 4] [] rfl rfl (by decide) (by decide) (by decide) rfl rfl rfl rfl (Nat.le_of_ble_eq_true rfl) dX0_addSquaredRowTo_39 (Nat.le_of_ble_eq_true rfl) (Nat.le_of_ble_eq_true rfl) (fun u H locs hu hP hD hS => ?_)
      have hP : va_P D vwCl [(h, .inr (0, [.ref a, .ref b, .ref c0])), (a, .inl (cI, S + 1, .inl f)), (b, .inl (cI, k, .inl g)), (c0, .inl (cI, k, .inl w)), (z, .inl (cI, S, .inl u))] H := hP
      have hD : va_D A [(h, .inr (0, [.ref a, .ref b, .ref c0])), (a, .inl (cI, S + 1, .inl f)), (b, .inl (cI, k, .inl g)), (c0, .inl (cI, k, .inl w)), (z, .inl (cI, S, .inl u))] := hD
      have hu2 : ∀ j, j < S → u j = Z1 j + w (ms_sc M0 S i + t) * M0 (ms_J g (ms_sc M0 S i) t) j := ms_addrow hs (by omega) hj5 hu
      refine lv_iinc (v := nI ((ms_sc M0 S i + t) + 1)) (lv' := [(4, .int (nI ((ms_sc M0 S i + t) + 1))), (3, .int (nI (ms_sc M0 S (i + 1)))), (0, .ref h), (1, .ref z), (2, .int (nI i))]) hx hb dX0_addSquaredRowTo_42 hl (k := 0) rfl (rv_inc _) (by decide) rfl (fun ls hl => ?_)
      refine lv_goto (tgt := 17) hx hb dX0_addSquaredRowTo_45 (by decide) ?_
      exact ih17 (t + 1) u _ _ _ (by omega) (ms_sqstep (F := fun _ => 0) (G := fun t j => w (ms_sc M0 S i + t) * M0 (ms_J g (ms_sc M0 S i) t) j) hu2 hZ) (hP.sub [0, 1, 2, 3, 4] rfl) (hD.sub [0, 1, 2, 3, 4] (by decide) rfl) hS (lv_sub hl [0, 1, 2, 3, 4] rfl)
  exact L17 _ 0 Z _ _ _ (Nat.add_sub_cancel' h01) (fun j _ => (Int32.add_zero _).symm) (hP.sub [0, 1, 2, 3, 4] rfl) (hD.sub [0, 1, 2, 3, 4] (by decide) rfl) hS (lv_sub hl [0, 1, 2, 3, 4] rfl)

set_option maxHeartbeats 4000000 in
set_option maxRecDepth 100000 in
theorem c_fill (l : Launch) (D : va_G) (cI : ClassId) (a N : Nat) (f : Nat → Int32) (v : Int32) (hN : N < 2 ^ 31) : MetV l yJ7_fill_53178 wsJ7_fill_53178 rm_0 D [(cI, .int)] [.ref a, .int v] [(a, .inl (cI, N, .inl f))] (fun u : Nat → Int32 => ∀ j, j < N → u j = v) (fun u => [(a, .inl (cI, N, .inl u))]) 0 0 := by
  refine rs_V (cc := cJ7_fill_53178) (maxL := 4) (by decide) rfl (Nat.le_of_ble_eq_true rfl) ?_
  intro p e s m args below meth c Q A ls hx hb hml hown hts hin hP hK hD hS hA hl ret
  have hl : lv_has ls 4 [(0, .ref a), (1, .int v)] := hl
  have hP : va_P D vwCl [(a, .inl (cI, N, .inl f))] s.heap := hP
  have hD : va_D A [(a, .inl (cI, N, .inl f))] := hD
  refine lv_iconst (v := nI 0) hx hb dJ7_fill_53178_0 (by decide +kernel) ?_
  refine lv_istore_n (lv' := [(2, .int (nI 0)), (0, .ref a), (1, .int v)]) hx hb dJ7_fill_53178_1 rfl hl (by decide) rfl (fun ls hl => ?_)
  refine lv_aload_n hx hb dJ7_fill_53178_2 rfl (lv_at hl 1 rfl) ?_
  refine va_alen (v := nI N) hx hb hK hP 0 0 rfl (ty := .int) rfl rfl dJ7_fill_53178_3 ?_
  refine lv_istore_n (lv' := [(3, .int (nI N)), (2, .int (nI 0)), (0, .ref a), (1, .int v)]) hx hb dJ7_fill_53178_4 rfl hl (by decide) rfl (fun ls hl => ?_)
  have L5 : ∀ (k5 : Nat) (j : Nat) (f1 : Nat → Int32) (H : Heap) (locs : List Loc) (ls : Array Slot), j + k5 = N → (∀ t, t < j → f1 t = v) → va_P D vwCl [(a, .inl (cI, N, .inl f1))] H → va_D A [(a, .inl (cI, N, .inl f1))] → va_S A s.heap H locs → lv_has ls 4 [(2, .int (nI j)), (3, .int (nI N)), (0, .ref a), (1, .int v)] → W p l e rm_0 s m args below meth c H locs 0 0 Q (F0 m 5 ls []) := by
    intro k5
    induction k5 with
    | zero =>
      intro j f1 H locs ls hk5 hf hP hD hS hl
      refine lv_iload_n hx hb dJ7_fill_53178_5 rfl (lv_at hl 0 rfl) ?_
      refine lv_iload_n hx hb dJ7_fill_53178_6 rfl (lv_at hl 1 rfl) ?_
      refine rv_ge_t (tgt := 20) hx hb dJ7_fill_53178_7 (by decide) (by omega) (by omega) ?_
      exact ret _ _ _ _ f1 dJ7_fill_53178_20 (fun t ht => hf t (by omega)) (hP.sub [0] rfl) (hD.sub [0] (by decide) rfl) hS
    | succ k5 ih5 =>
      intro j f1 H locs ls hk5 hf hP hD hS hl
      refine lv_iload_n hx hb dJ7_fill_53178_5 rfl (lv_at hl 0 rfl) ?_
      refine lv_iload_n hx hb dJ7_fill_53178_6 rfl (lv_at hl 1 rfl) ?_
      refine rv_ge_f (tgt := 20) hx hb dJ7_fill_53178_7 (by decide) (by omega) (by omega) ?_
      refine lv_aload_n hx hb dJ7_fill_53178_10 rfl (lv_at hl 2 rfl) ?_
      refine lv_iload_n hx hb dJ7_fill_53178_11 rfl (lv_at hl 0 rfl) ?_
      refine lv_iload_n hx hb dJ7_fill_53178_12 rfl (lv_at hl 3 rfl) ?_
      refine rv_iast hx hb hK hP hD hS 0 rfl rfl (by omega) (by omega) dJ7_fill_53178_13 (fun H locs hP hD hS => ?_)
      have hP : va_P D vwCl [(a, .inl (cI, N, .inl (upd f1 j v)))] H := hP
      have hD : va_D A [(a, .inl (cI, N, .inl (upd f1 j v)))] := hD
      refine lv_iinc (v := nI (j + 1)) (lv' := [(2, .int (nI (j + 1))), (3, .int (nI N)), (0, .ref a), (1, .int v)]) hx hb dJ7_fill_53178_14 hl (k := 0) rfl (rv_inc _) (by decide) rfl (fun ls hl => ?_)
      refine lv_goto (tgt := 5) hx hb dJ7_fill_53178_17 (by decide) ?_
      exact ih5 (j + 1) (upd f1 j v) _ _ _ (by omega) (ms_fillstep hf) (hP.sub [0] rfl) (hD.sub [0] (by decide) rfl) hS (lv_sub hl [0, 1, 2, 3] rfl)
  exact L5 _ 0 f _ _ _ (Nat.zero_add _) (fun t ht => absurd ht (Nat.not_lt_zero t)) (hP.sub [0] rfl) (hD.sub [0] (by decide) rfl) hS (lv_sub hl [1, 0, 2, 3] rfl)

set_option maxHeartbeats 4000000 in
set_option maxRecDepth 100000 in
theorem c_hasPlace (l : Launch) (D : va_G) (cI : ClassId) (o R C : Nat) (x0 x3 x4 x5 x6 x7 x8 x9 x10 x11 : Value) (i j : Int32) (hR : R < 2 ^ 31) (hC : C < 2 ^ 31) : MetR l yX1_hasPlace wsX1_hasPlace rm_1 D [(cI, .int)] [.ref o, .int i, .int j] [(o, .inr (1, [x0, .int (nI R), .int (nI C), x3, x4, x5, x6, x7, x8, x9, x10, x11]))] (fun r => r = ms_bI (ms_in i R && ms_in j C)) := by
  refine rs_R (cc := cX1_hasPlace) (maxL := 3) (rty := .boolean) (by decide) rfl (Nat.le_of_ble_eq_true rfl) ?_
  intro p e s m args below meth c Q ls hx hb hml hown hts hP hK hl ret
  have f13 := hts (.fieldLink RX1 13 "RowSparse" "rows" "I") (by decide +kernel)
  have f17 := hts (.fieldLink RX1 17 "RowSparse" "cols" "I") (by decide +kernel)
  have hin1 : ∀ w ∈ u_ws RX1 TX1 12, w ∈ wsX1_hasPlace := by decide +kernel
  have hl : lv_has ls 3 [(0, .ref o), (1, .int i), (2, .int j)] := hl
  have hP : va_P D vwCl [(o, .inr (1, [x0, .int (nI R), .int (nI C), x3, x4, x5, x6, x7, x8, x9, x10, x11]))] s.heap := hP
  refine lv_iload_n hx hb dX1_hasPlace_0 rfl (lv_at hl 1 rfl) ?_
  refine lv_aload_n hx hb dX1_hasPlace_1 rfl (lv_at hl 0 rfl) ?_
  refine va_get (D := D) (ci := 1) (v := .int (nI R)) (C := RX1) (T := TX1) (N := 12) hx hb hts hin1 hown hK hP 0 rfl rfl 1 (by decide) f13 (fun _ h9 => h9) rfl dX1_hasPlace_2 ?_
  refine rs_cRS (As := [.int i, .int (nI R)]) (rest := []) ⟨hx, hb, hml, hown, hts⟩ hl.1 (c_isWithin l D cI i R hR) (va_cwS 2 hts gX1_hasPlace_X1_isWithin rfl rfl rfl (by decide +kernel) ⟨Nat.le_of_ble_eq_true rfl, Nat.le_of_ble_eq_true rfl⟩) hK hP [] rfl rfl rfl (Nat.le_of_ble_eq_true rfl) dX1_hasPlace_5 (Nat.le_of_ble_eq_true rfl) (Nat.le_of_ble_eq_true rfl) (fun r hr => ?_)
  subst hr
  refine lv_if_eq (tgt := 26) hx hb dX1_hasPlace_8 (by decide) (fun h1 => ?_) (fun h1 => ?_)
  · have h1 := ms_bI_0.mp h1
    refine lv_iconst (v := nI 0) hx hb dX1_hasPlace_26 (by decide +kernel) ?_
    exact ret _ _ _ dX1_hasPlace_27 (rfl) (ms_bI_f (by rw [h1]; rfl))
  · have h1 := ms_bI_n.mp h1
    refine lv_iload_n hx hb dX1_hasPlace_11 rfl (lv_at hl 2 rfl) ?_
    refine lv_aload_n hx hb dX1_hasPlace_12 rfl (lv_at hl 0 rfl) ?_
    refine va_get (D := D) (ci := 1) (v := .int (nI C)) (C := RX1) (T := TX1) (N := 12) hx hb hts hin1 hown hK hP 0 rfl rfl 2 (by decide) f17 (fun _ h9 => h9) rfl dX1_hasPlace_13 ?_
    refine rs_cRS (As := [.int j, .int (nI C)]) (rest := []) ⟨hx, hb, hml, hown, hts⟩ hl.1 (c_isWithin l D cI j C hC) (va_cwS 2 hts gX1_hasPlace_X1_isWithin rfl rfl rfl (by decide +kernel) ⟨Nat.le_of_ble_eq_true rfl, Nat.le_of_ble_eq_true rfl⟩) hK hP [] rfl rfl rfl (Nat.le_of_ble_eq_true rfl) dX1_hasPlace_16 (Nat.le_of_ble_eq_true rfl) (Nat.le_of_ble_eq_true rfl) (fun r hr => ?_)
    subst hr
    refine lv_if_eq (tgt := 26) hx hb dX1_hasPlace_19 (by decide) (fun h2 => ?_) (fun h2 => ?_)
    · have h2 := ms_bI_0.mp h2
      refine lv_iconst (v := nI 0) hx hb dX1_hasPlace_26 (by decide +kernel) ?_
      exact ret _ _ _ dX1_hasPlace_27 (rfl) (ms_bI_f (by rw [h1, h2]; rfl))
    · have h2 := ms_bI_n.mp h2
      refine lv_iconst (v := nI 1) hx hb dX1_hasPlace_22 (by decide +kernel) ?_
      refine lv_goto (tgt := 27) hx hb dX1_hasPlace_23 (by decide) ?_
      exact ret _ _ _ dX1_hasPlace_27 (rfl) (ms_bI_t (by rw [h1, h2]; rfl))

set_option maxHeartbeats 4000000 in
set_option maxRecDepth 100000 in
theorem c_isPlace (l : Launch) (D : va_G) (cI : ClassId) (o R C : Nat) (x0 x3 x4 x5 x6 x7 x8 : Value) (i j : Int32) (hR1 : 1 ≤ R) (hC1 : 1 ≤ C) (hR : R < 2 ^ 31) (hC : C < 2 ^ 31) : MetR l yX2_isPlace wsX2_isPlace rm_1 D [(cI, .int)] [.ref o, .int i, .int j] [(o, .inr (2, [x0, .int (nI R), .int (nI C), x3, x4, x5, x6, x7, x8]))] (fun r => r = ms_bI (ms_in i R && ms_in j C)) := by
  refine rs_R (cc := cX2_isPlace) (maxL := 3) (rty := .boolean) (by decide) rfl (Nat.le_of_ble_eq_true rfl) ?_
  intro p e s m args below meth c Q ls hx hb hml hown hts hP hK hl ret
  have f29 := hts (.fieldLink RX2 29 "RowSparseModel" "rows" "I") (by decide +kernel)
  have f33 := hts (.fieldLink RX2 33 "RowSparseModel" "cols" "I") (by decide +kernel)
  have hin2 : ∀ w ∈ u_ws RX2 TX2 9, w ∈ wsX2_isPlace := by decide +kernel
  have hl : lv_has ls 3 [(0, .ref o), (1, .int i), (2, .int j)] := hl
  have hP : va_P D vwCl [(o, .inr (2, [x0, .int (nI R), .int (nI C), x3, x4, x5, x6, x7, x8]))] s.heap := hP
  have eR : R - 1 + 1 = R := by omega
  have eC : C - 1 + 1 = C := by omega
  refine lv_iload_n hx hb dX2_isPlace_0 rfl (lv_at hl 1 rfl) ?_
  refine lv_iconst (v := nI 0) hx hb dX2_isPlace_1 (by decide +kernel) ?_
  refine lv_aload_n hx hb dX2_isPlace_2 rfl (lv_at hl 0 rfl) ?_
  refine va_get (D := D) (ci := 2) (v := .int (nI R)) (C := RX2) (T := TX2) (N := 9) hx hb hts hin2 hown hK hP 0 rfl rfl 1 (by decide) f29 (fun _ h9 => h9) rfl dX2_isPlace_3 ?_
  refine lv_iconst (v := nI 1) hx hb dX2_isPlace_6 (by decide +kernel) ?_
  refine rv_isub hx hb (by omega) dX2_isPlace_7 ?_
  refine rs_cRS (As := [.int i, .int (nI 0), .int (nI (R - 1))]) (rest := []) ⟨hx, hb, hml, hown, hts⟩ hl.1 (c_in l D cI i (R - 1) (by omega)) (va_cwS 3 hts gX2_isPlace_X2_in rfl rfl rfl (by decide +kernel) ⟨Nat.le_of_ble_eq_true rfl, Nat.le_of_ble_eq_true rfl⟩) hK hP [] rfl rfl rfl (Nat.le_of_ble_eq_true rfl) dX2_isPlace_8 (Nat.le_of_ble_eq_true rfl) (Nat.le_of_ble_eq_true rfl) (fun r hr => ?_)
  subst hr
  refine lv_if_eq (tgt := 32) hx hb dX2_isPlace_11 (by decide) (fun h1 => ?_) (fun h1 => ?_)
  · have h1 := ms_bI_0.mp h1
    rw [eR] at h1
    refine lv_iconst (v := nI 0) hx hb dX2_isPlace_32 (by decide +kernel) ?_
    exact ret _ _ _ dX2_isPlace_33 (rfl) (ms_bI_f (by rw [h1]; rfl))
  · have h1 := ms_bI_n.mp h1
    rw [eR] at h1
    refine lv_iload_n hx hb dX2_isPlace_14 rfl (lv_at hl 2 rfl) ?_
    refine lv_iconst (v := nI 0) hx hb dX2_isPlace_15 (by decide +kernel) ?_
    refine lv_aload_n hx hb dX2_isPlace_16 rfl (lv_at hl 0 rfl) ?_
    refine va_get (D := D) (ci := 2) (v := .int (nI C)) (C := RX2) (T := TX2) (N := 9) hx hb hts hin2 hown hK hP 0 rfl rfl 2 (by decide) f33 (fun _ h9 => h9) rfl dX2_isPlace_17 ?_
    refine lv_iconst (v := nI 1) hx hb dX2_isPlace_20 (by decide +kernel) ?_
    refine rv_isub hx hb (by omega) dX2_isPlace_21 ?_
    refine rs_cRS (As := [.int j, .int (nI 0), .int (nI (C - 1))]) (rest := []) ⟨hx, hb, hml, hown, hts⟩ hl.1 (c_in l D cI j (C - 1) (by omega)) (va_cwS 3 hts gX2_isPlace_X2_in rfl rfl rfl (by decide +kernel) ⟨Nat.le_of_ble_eq_true rfl, Nat.le_of_ble_eq_true rfl⟩) hK hP [] rfl rfl rfl (Nat.le_of_ble_eq_true rfl) dX2_isPlace_22 (Nat.le_of_ble_eq_true rfl) (Nat.le_of_ble_eq_true rfl) (fun r hr => ?_)
    subst hr
    refine lv_if_eq (tgt := 32) hx hb dX2_isPlace_25 (by decide) (fun h2 => ?_) (fun h2 => ?_)
    · have h2 := ms_bI_0.mp h2
      rw [eC] at h2
      refine lv_iconst (v := nI 0) hx hb dX2_isPlace_32 (by decide +kernel) ?_
      exact ret _ _ _ dX2_isPlace_33 (rfl) (ms_bI_f (by rw [h1, h2]; rfl))
    · have h2 := ms_bI_n.mp h2
      rw [eC] at h2
      refine lv_iconst (v := nI 1) hx hb dX2_isPlace_28 (by decide +kernel) ?_
      refine lv_goto (tgt := 33) hx hb dX2_isPlace_29 (by decide) ?_
      exact ret _ _ _ dX2_isPlace_33 (rfl) (ms_bI_t (by rw [h1, h2]; rfl))

set_option maxHeartbeats 4000000 in
set_option maxRecDepth 100000 in
theorem c_addPendingTo (l : Launch) (D : va_G) (cI : ClassId) (o K R C su sp ar ac av vx py li np z S i : Nat) (pR pC pV Z : Nat → Int32) (J : Nat → Nat) (hK0 : K < 2 ^ 31) (hn : np ≤ K) (hS3 : S < 2 ^ 31) (hJ : ∀ p, p < np → pC p = nI (J p) ∧ J p < S) : MetV l yX1_addPendingTo wsX1_addPendingTo rm_0 D [(cI, .int)] [.ref o, .ref z, .int (nI i)] [(o, .inr (1, [.int (nI K), .int (nI R), .int (nI C), .ref su, .ref sp, .ref ar, .ref ac, .ref av, .int (nI np), .ref vx, .ref py, .ref li])), (ar, .inl (cI, K, .inl pR)), (ac, .inl (cI, K, .inl pC)), (av, .inl (cI, K, .inl pV)), (z, .inl (cI, S, .inl Z))] (fun u : Nat → Int32 => ∀ j, u j = Z j + ms_sm (fun p => if J p = j then (if pR p = nI i then pV p else 0) else 0) np) (fun u => [(o, .inr (1, [.int (nI K), .int (nI R), .int (nI C), .ref su, .ref sp, .ref ar, .ref ac, .ref av, .int (nI np), .ref vx, .ref py, .ref li])), (ar, .inl (cI, K, .inl pR)), (ac, .inl (cI, K, .inl pC)), (av, .inl (cI, K, .inl pV)), (z, .inl (cI, S, .inl u))]) 0 0 := by
  refine rs_V (cc := cX1_addPendingTo) (maxL := 4) (by decide) rfl (Nat.le_of_ble_eq_true rfl) ?_
  intro p e s m args below meth c Q A ls hx hb hml hown hts hin hP hK hD hS hA hl ret
  have f40 := hts (.fieldLink RX1 40 "RowSparse" "pendingRows" "[I") (by decide +kernel)
  have f44 := hts (.fieldLink RX1 44 "RowSparse" "pendingCols" "[I") (by decide +kernel)
  have f47 := hts (.fieldLink RX1 47 "RowSparse" "pendingValues" "[I") (by decide +kernel)
  have f50 := hts (.fieldLink RX1 50 "RowSparse" "pending" "I") (by decide +kernel)
  have hin1 : ∀ w ∈ u_ws RX1 TX1 12, w ∈ wsX1_addPendingTo := by decide +kernel
  have hl : lv_has ls 4 [(0, .ref o), (1, .ref z), (2, .int (nI i))] := hl
  have hP : va_P D vwCl [(o, .inr (1, [.int (nI K), .int (nI R), .int (nI C), .ref su, .ref sp, .ref ar, .ref ac, .ref av, .int (nI np), .ref vx, .ref py, .ref li])), (ar, .inl (cI, K, .inl pR)), (ac, .inl (cI, K, .inl pC)), (av, .inl (cI, K, .inl pV)), (z, .inl (cI, S, .inl Z))] s.heap := hP
  have hD : va_D A [(o, .inr (1, [.int (nI K), .int (nI R), .int (nI C), .ref su, .ref sp, .ref ar, .ref ac, .ref av, .int (nI np), .ref vx, .ref py, .ref li])), (ar, .inl (cI, K, .inl pR)), (ac, .inl (cI, K, .inl pC)), (av, .inl (cI, K, .inl pV)), (z, .inl (cI, S, .inl Z))] := hD
  refine lv_iconst (v := nI 0) hx hb dX1_addPendingTo_0 (by decide +kernel) ?_
  refine lv_istore_n (lv' := [(3, .int (nI 0)), (0, .ref o), (1, .ref z), (2, .int (nI i))]) hx hb dX1_addPendingTo_1 rfl hl (by decide) rfl (fun ls hl => ?_)
  have L2 : ∀ (k2 : Nat) (t : Nat) (Z1 : Nat → Int32) (H : Heap) (locs : List Loc) (ls : Array Slot), t + k2 = np → (∀ j, Z1 j = Z j + ms_sm (fun p => if J p = j then (if pR p = nI i then pV p else 0) else 0) t) → va_P D vwCl [(o, .inr (1, [.int (nI K), .int (nI R), .int (nI C), .ref su, .ref sp, .ref ar, .ref ac, .ref av, .int (nI np), .ref vx, .ref py, .ref li])), (ar, .inl (cI, K, .inl pR)), (ac, .inl (cI, K, .inl pC)), (av, .inl (cI, K, .inl pV)), (z, .inl (cI, S, .inl Z1))] H → va_D A [(o, .inr (1, [.int (nI K), .int (nI R), .int (nI C), .ref su, .ref sp, .ref ar, .ref ac, .ref av, .int (nI np), .ref vx, .ref py, .ref li])), (ar, .inl (cI, K, .inl pR)), (ac, .inl (cI, K, .inl pC)), (av, .inl (cI, K, .inl pV)), (z, .inl (cI, S, .inl Z1))] → va_S A s.heap H locs → lv_has ls 4 [(3, .int (nI t)), (0, .ref o), (1, .ref z), (2, .int (nI i))] → W p l e rm_0 s m args below meth c H locs 0 0 Q (F0 m 2 ls []) := by
    intro k2
    induction k2 with
    | zero =>
      intro t Z1 H locs ls hk2 hZ hP hD hS hl
      refine lv_iload_n hx hb dX1_addPendingTo_2 rfl (lv_at hl 0 rfl) ?_
      refine lv_aload_n hx hb dX1_addPendingTo_3 rfl (lv_at hl 1 rfl) ?_
      refine va_get (D := D) (ci := 1) (v := .int (nI np)) (C := RX1) (T := TX1) (N := 12) hx hb hts hin1 hown hK hP 0 rfl rfl 8 (by decide) f50 (fun _ h9 => h9) rfl dX1_addPendingTo_4 ?_
      refine rv_ge_t (tgt := 43) hx hb dX1_addPendingTo_7 (by decide) (by omega) (by omega) ?_
      exact ret _ _ _ _ Z1 dX1_addPendingTo_43 (by rw [show np = t by omega]; exact hZ) (hP.sub [0, 1, 2, 3, 4] rfl) (hD.sub [0, 1, 2, 3, 4] (by decide) rfl) hS
    | succ k2 ih2 =>
      intro t Z1 H locs ls hk2 hZ hP hD hS hl
      refine lv_iload_n hx hb dX1_addPendingTo_2 rfl (lv_at hl 0 rfl) ?_
      refine lv_aload_n hx hb dX1_addPendingTo_3 rfl (lv_at hl 1 rfl) ?_
      refine va_get (D := D) (ci := 1) (v := .int (nI np)) (C := RX1) (T := TX1) (N := 12) hx hb hts hin1 hown hK hP 0 rfl rfl 8 (by decide) f50 (fun _ h9 => h9) rfl dX1_addPendingTo_4 ?_
      refine rv_ge_f (tgt := 43) hx hb dX1_addPendingTo_7 (by decide) (by omega) (by omega) ?_
      refine lv_aload_n hx hb dX1_addPendingTo_10 rfl (lv_at hl 1 rfl) ?_
      refine va_get (D := D) (ci := 1) (v := .ref ar) (C := RX1) (T := TX1) (N := 12) hx hb hts hin1 hown hK hP 0 rfl rfl 5 (by decide) f40 (fun _ h9 => h9) rfl dX1_addPendingTo_11 ?_
      refine lv_iload_n hx hb dX1_addPendingTo_14 rfl (lv_at hl 0 rfl) ?_
      refine rv_iald hx hb hK hP 1 rfl rfl (by omega) (by omega) dX1_addPendingTo_15 ?_
      refine lv_iload_n hx hb dX1_addPendingTo_16 rfl (lv_at hl 3 rfl) ?_
      refine lv_icmp_ne (tgt := 37) hx hb dX1_addPendingTo_17 (by decide) (fun hne => ?_) (fun hne => ?_)
      · refine lv_iinc (v := nI (t + 1)) (lv' := [(3, .int (nI (t + 1))), (0, .ref o), (1, .ref z), (2, .int (nI i))]) hx hb dX1_addPendingTo_37 hl (k := 0) rfl (rv_inc _) (by decide) rfl (fun ls hl => ?_)
        refine lv_goto (tgt := 2) hx hb dX1_addPendingTo_40 (by decide) ?_
        exact ih2 (t + 1) Z1 _ _ _ (by omega) (ms_accskip (G := fun p => if pR p = nI i then pV p else 0) (if_neg hne) hZ) (hP.sub [0, 1, 2, 3, 4] rfl) (hD.sub [0, 1, 2, 3, 4] (by decide) rfl) hS (lv_sub hl [0, 1, 2, 3] rfl)
      · refine lv_aload_n hx hb dX1_addPendingTo_20 rfl (lv_at hl 2 rfl) ?_
        refine lv_aload_n hx hb dX1_addPendingTo_21 rfl (lv_at hl 1 rfl) ?_
        refine va_get (D := D) (ci := 1) (v := .ref ac) (C := RX1) (T := TX1) (N := 12) hx hb hts hin1 hown hK hP 0 rfl rfl 6 (by decide) f44 (fun _ h9 => h9) rfl dX1_addPendingTo_22 ?_
        refine lv_iload_n hx hb dX1_addPendingTo_25 rfl (lv_at hl 0 rfl) ?_
        refine rv_iald hx hb hK hP 2 rfl rfl (by omega) (by omega) dX1_addPendingTo_26 ?_
        refine rv_top ((hJ t (by omega)).1) ?_
        refine lv_dup2_11 hx hb dX1_addPendingTo_27 rfl rfl ?_
        refine rv_iald hx hb hK hP 4 rfl rfl ((hJ t (by omega)).2) (hS3) dX1_addPendingTo_28 ?_
        refine lv_aload_n hx hb dX1_addPendingTo_29 rfl (lv_at hl 1 rfl) ?_
        refine va_get (D := D) (ci := 1) (v := .ref av) (C := RX1) (T := TX1) (N := 12) hx hb hts hin1 hown hK hP 0 rfl rfl 7 (by decide) f47 (fun _ h9 => h9) rfl dX1_addPendingTo_30 ?_
        refine lv_iload_n hx hb dX1_addPendingTo_33 rfl (lv_at hl 0 rfl) ?_
        refine rv_iald hx hb hK hP 3 rfl rfl (by omega) (by omega) dX1_addPendingTo_34 ?_
        refine lv_iadd hx hb dX1_addPendingTo_35 ?_
        refine rv_iast hx hb hK hP hD hS 4 rfl rfl ((hJ t (by omega)).2) (hS3) dX1_addPendingTo_36 (fun H locs hP hD hS => ?_)
        have hP : va_P D vwCl [(o, .inr (1, [.int (nI K), .int (nI R), .int (nI C), .ref su, .ref sp, .ref ar, .ref ac, .ref av, .int (nI np), .ref vx, .ref py, .ref li])), (ar, .inl (cI, K, .inl pR)), (ac, .inl (cI, K, .inl pC)), (av, .inl (cI, K, .inl pV)), (z, .inl (cI, S, .inl (upd Z1 (J t) ((Z1 (J t)) + (pV t)))))] H := hP
        have hD : va_D A [(o, .inr (1, [.int (nI K), .int (nI R), .int (nI C), .ref su, .ref sp, .ref ar, .ref ac, .ref av, .int (nI np), .ref vx, .ref py, .ref li])), (ar, .inl (cI, K, .inl pR)), (ac, .inl (cI, K, .inl pC)), (av, .inl (cI, K, .inl pV)), (z, .inl (cI, S, .inl (upd Z1 (J t) ((Z1 (J t)) + (pV t)))))] := hD
        refine lv_iinc (v := nI (t + 1)) (lv' := [(3, .int (nI (t + 1))), (0, .ref o), (1, .ref z), (2, .int (nI i))]) hx hb dX1_addPendingTo_37 hl (k := 0) rfl (rv_inc _) (by decide) rfl (fun ls hl => ?_)
        refine lv_goto (tgt := 2) hx hb dX1_addPendingTo_40 (by decide) ?_
        exact ih2 (t + 1) (upd Z1 (J t) ((Z1 (J t)) + (pV t))) _ _ _ (by omega) (ms_accif (G := fun p => if pR p = nI i then pV p else 0) (if_pos hne) hZ) (hP.sub [0, 1, 2, 3, 4] rfl) (hD.sub [0, 1, 2, 3, 4] (by decide) rfl) hS (lv_sub hl [0, 1, 2, 3] rfl)
  exact L2 _ 0 Z _ _ _ (Nat.zero_add _) (fun j => (Int32.add_zero _).symm) (hP.sub [0, 1, 2, 3, 4] rfl) (hD.sub [0, 1, 2, 3, 4] (by decide) rfl) hS (lv_sub hl [0, 1, 2, 3] rfl)

set_option maxHeartbeats 4000000 in
set_option maxRecDepth 100000 in
theorem c_swapSupports (l : Launch) (D : va_G) (cI : ClassId) (o K R C su sp ar ac av vx py li np : Nat) : MetV l yX1_swapSupports wsX1_swapSupports rm_0 D [(cI, .int)] [.ref o] [(o, .inr (1, [.int (nI K), .int (nI R), .int (nI C), .ref su, .ref sp, .ref ar, .ref ac, .ref av, .int (nI np), .ref vx, .ref py, .ref li]))] (fun _ : Unit => True) (fun _ => [(o, .inr (1, [.int (nI K), .int (nI R), .int (nI C), .ref sp, .ref su, .ref ar, .ref ac, .ref av, .int (nI np), .ref vx, .ref py, .ref li]))]) 0 0 := by
  refine rs_V (cc := cX1_swapSupports) (maxL := 2) (by decide) rfl (Nat.le_of_ble_eq_true rfl) ?_
  intro p e s m args below meth c Q A ls hx hb hml hown hts hin hP hK hD hS hA hl ret
  have f33 := hts (.fieldLink RX1 33 "RowSparse" "support" "LRowSparse$Support;") (by decide +kernel)
  have f37 := hts (.fieldLink RX1 37 "RowSparse" "spare" "LRowSparse$Support;") (by decide +kernel)
  have hin1 : ∀ w ∈ u_ws RX1 TX1 12, w ∈ wsX1_swapSupports := by decide +kernel
  have hl : lv_has ls 2 [(0, .ref o)] := hl
  have hP : va_P D vwCl [(o, .inr (1, [.int (nI K), .int (nI R), .int (nI C), .ref su, .ref sp, .ref ar, .ref ac, .ref av, .int (nI np), .ref vx, .ref py, .ref li]))] s.heap := hP
  have hD : va_D A [(o, .inr (1, [.int (nI K), .int (nI R), .int (nI C), .ref su, .ref sp, .ref ar, .ref ac, .ref av, .int (nI np), .ref vx, .ref py, .ref li]))] := hD
  refine lv_aload_n hx hb dX1_swapSupports_0 rfl (lv_at hl 0 rfl) ?_
  refine va_get (D := D) (ci := 1) (v := .ref su) (C := RX1) (T := TX1) (N := 12) hx hb hts hin1 hown hK hP 0 rfl rfl 3 (by decide) f33 (fun _ h9 => h9) rfl dX1_swapSupports_1 ?_
  refine lv_astore_n (lv' := [(1, .ref su), (0, .ref o)]) hx hb dX1_swapSupports_4 rfl hl (by decide) rfl (fun ls hl => ?_)
  refine lv_aload_n hx hb dX1_swapSupports_5 rfl (lv_at hl 1 rfl) ?_
  refine lv_aload_n hx hb dX1_swapSupports_6 rfl (lv_at hl 1 rfl) ?_
  refine va_get (D := D) (ci := 1) (v := .ref sp) (C := RX1) (T := TX1) (N := 12) hx hb hts hin1 hown hK hP 0 rfl rfl 4 (by decide) f37 (fun _ h9 => h9) rfl dX1_swapSupports_7 ?_
  refine va_put (D := D) (ci := 1) (v := .ref sp) (ty := .object "RowSparse$Support") (C := RX1) (T := TX1) (N := 12) hx hb hts hin1 tyX1 tyX1_ok nmX1 hown hK hP hD hS 0 rfl rfl 3 (by decide) f33 (fun _ h9 => h9) rfl (by decide +kernel) rfl rfl (Nat.le_of_ble_eq_true rfl) dX1_swapSupports_10 (fun H locs hP hD hS => ?_)
  have hP : va_P D vwCl [(o, .inr (1, [.int (nI K), .int (nI R), .int (nI C), .ref sp, .ref sp, .ref ar, .ref ac, .ref av, .int (nI np), .ref vx, .ref py, .ref li]))] H := hP
  have hD : va_D A [(o, .inr (1, [.int (nI K), .int (nI R), .int (nI C), .ref sp, .ref sp, .ref ar, .ref ac, .ref av, .int (nI np), .ref vx, .ref py, .ref li]))] := hD
  refine lv_aload_n hx hb dX1_swapSupports_13 rfl (lv_at hl 1 rfl) ?_
  refine lv_aload_n hx hb dX1_swapSupports_14 rfl (lv_at hl 0 rfl) ?_
  refine va_put (D := D) (ci := 1) (v := .ref su) (ty := .object "RowSparse$Support") (C := RX1) (T := TX1) (N := 12) hx hb hts hin1 tyX1 tyX1_ok nmX1 hown hK hP hD hS 0 rfl rfl 4 (by decide) f37 (fun _ h9 => h9) rfl (by decide +kernel) rfl rfl (Nat.le_of_ble_eq_true rfl) dX1_swapSupports_15 (fun H locs hP hD hS => ?_)
  have hP : va_P D vwCl [(o, .inr (1, [.int (nI K), .int (nI R), .int (nI C), .ref sp, .ref su, .ref ar, .ref ac, .ref av, .int (nI np), .ref vx, .ref py, .ref li]))] H := hP
  have hD : va_D A [(o, .inr (1, [.int (nI K), .int (nI R), .int (nI C), .ref sp, .ref su, .ref ar, .ref ac, .ref av, .int (nI np), .ref vx, .ref py, .ref li]))] := hD
  exact ret _ _ _ _ () dX1_swapSupports_18 (trivial) (hP.sub [0] rfl) (hD.sub [0] (by decide) rfl) hS

set_option maxHeartbeats 4000000 in
set_option maxRecDepth 100000 in
theorem c_turns (l : Launch) (D : va_G) (cI : ClassId) (o K R C ta ot mo xx yy np : Nat) : MetV l yX2_turns wsX2_turns rm_0 D [(cI, .int)] [.ref o] [(o, .inr (2, [.int (nI K), .int (nI R), .int (nI C), .int (nI np), .ref ta, .ref ot, .ref mo, .ref xx, .ref yy]))] (fun _ : Unit => True) (fun _ => [(o, .inr (2, [.int (nI K), .int (nI R), .int (nI C), .int (nI np), .ref ot, .ref ta, .ref mo, .ref xx, .ref yy]))]) 0 0 := by
  refine rs_V (cc := cX2_turns) (maxL := 2) (by decide) rfl (Nat.le_of_ble_eq_true rfl) ?_
  intro p e s m args below meth c Q A ls hx hb hml hown hts hin hP hK hD hS hA hl ret
  have f7 := hts (.fieldLink RX2 7 "RowSparseModel" "table" "[I") (by decide +kernel)
  have f13 := hts (.fieldLink RX2 13 "RowSparseModel" "other" "[I") (by decide +kernel)
  have hin2 : ∀ w ∈ u_ws RX2 TX2 9, w ∈ wsX2_turns := by decide +kernel
  have hl : lv_has ls 2 [(0, .ref o)] := hl
  have hP : va_P D vwCl [(o, .inr (2, [.int (nI K), .int (nI R), .int (nI C), .int (nI np), .ref ta, .ref ot, .ref mo, .ref xx, .ref yy]))] s.heap := hP
  have hD : va_D A [(o, .inr (2, [.int (nI K), .int (nI R), .int (nI C), .int (nI np), .ref ta, .ref ot, .ref mo, .ref xx, .ref yy]))] := hD
  refine lv_aload_n hx hb dX2_turns_0 rfl (lv_at hl 0 rfl) ?_
  refine va_get (D := D) (ci := 2) (v := .ref ta) (C := RX2) (T := TX2) (N := 9) hx hb hts hin2 hown hK hP 0 rfl rfl 4 (by decide) f7 (fun _ h9 => h9) rfl dX2_turns_1 ?_
  refine lv_astore_n (lv' := [(1, .ref ta), (0, .ref o)]) hx hb dX2_turns_4 rfl hl (by decide) rfl (fun ls hl => ?_)
  refine lv_aload_n hx hb dX2_turns_5 rfl (lv_at hl 1 rfl) ?_
  refine lv_aload_n hx hb dX2_turns_6 rfl (lv_at hl 1 rfl) ?_
  refine va_get (D := D) (ci := 2) (v := .ref ot) (C := RX2) (T := TX2) (N := 9) hx hb hts hin2 hown hK hP 0 rfl rfl 5 (by decide) f13 (fun _ h9 => h9) rfl dX2_turns_7 ?_
  refine va_put (D := D) (ci := 2) (v := .ref ot) (ty := .array .int) (C := RX2) (T := TX2) (N := 9) hx hb hts hin2 tyX2 tyX2_ok nmX2 hown hK hP hD hS 0 rfl rfl 4 (by decide) f7 (fun _ h9 => h9) rfl (by decide +kernel) rfl rfl (Nat.le_of_ble_eq_true rfl) dX2_turns_10 (fun H locs hP hD hS => ?_)
  have hP : va_P D vwCl [(o, .inr (2, [.int (nI K), .int (nI R), .int (nI C), .int (nI np), .ref ot, .ref ot, .ref mo, .ref xx, .ref yy]))] H := hP
  have hD : va_D A [(o, .inr (2, [.int (nI K), .int (nI R), .int (nI C), .int (nI np), .ref ot, .ref ot, .ref mo, .ref xx, .ref yy]))] := hD
  refine lv_aload_n hx hb dX2_turns_13 rfl (lv_at hl 1 rfl) ?_
  refine lv_aload_n hx hb dX2_turns_14 rfl (lv_at hl 0 rfl) ?_
  refine va_put (D := D) (ci := 2) (v := .ref ta) (ty := .array .int) (C := RX2) (T := TX2) (N := 9) hx hb hts hin2 tyX2 tyX2_ok nmX2 hown hK hP hD hS 0 rfl rfl 5 (by decide) f13 (fun _ h9 => h9) rfl (by decide +kernel) rfl rfl (Nat.le_of_ble_eq_true rfl) dX2_turns_15 (fun H locs hP hD hS => ?_)
  have hP : va_P D vwCl [(o, .inr (2, [.int (nI K), .int (nI R), .int (nI C), .int (nI np), .ref ot, .ref ta, .ref mo, .ref xx, .ref yy]))] H := hP
  have hD : va_D A [(o, .inr (2, [.int (nI K), .int (nI R), .int (nI C), .int (nI np), .ref ot, .ref ta, .ref mo, .ref xx, .ref yy]))] := hD
  exact ret _ _ _ _ () dX2_turns_18 (trivial) (hP.sub [0] rfl) (hD.sub [0] (by decide) rfl) hS

set_option maxHeartbeats 4000000 in
set_option maxRecDepth 100000 in
theorem c_many (l : Launch) (D : va_G) (cI : ClassId) (o R C t u : Nat) (x0 x3 x4 x5 x6 x7 x8 : Value) (T : Nat → Int32) (hu : u ≤ 60) (hC : C ≤ 60) : MetR l yX2_many wsX2_many rm_0 D [(cI, .int)] [.ref o, .ref t, .int (nI u)] [(o, .inr (2, [x0, .int (nI R), .int (nI C), x3, x4, x5, x6, x7, x8])), (t, .inl (cI, 3600, .inl T))] (fun r => r = nI (ms_sc (fun i j => T (60 * i + j)) C u)) := by
  refine rs_R (cc := cX2_many) (maxL := 6) (rty := .int) (by decide) rfl (Nat.le_of_ble_eq_true rfl) ?_
  intro p e s m args below meth c Q ls hx hb hml hown hts hP hK hl ret
  have f33 := hts (.fieldLink RX2 33 "RowSparseModel" "cols" "I") (by decide +kernel)
  have hin2 : ∀ w ∈ u_ws RX2 TX2 9, w ∈ wsX2_many := by decide +kernel
  have hl : lv_has ls 6 [(0, .ref o), (1, .ref t), (2, .int (nI u))] := hl
  have hP : va_P D vwCl [(o, .inr (2, [x0, .int (nI R), .int (nI C), x3, x4, x5, x6, x7, x8])), (t, .inl (cI, 3600, .inl T))] s.heap := hP
  refine lv_iconst (v := nI 0) hx hb dX2_many_0 (by decide +kernel) ?_
  refine lv_istore_n (lv' := [(3, .int (nI 0)), (0, .ref o), (1, .ref t), (2, .int (nI u))]) hx hb dX2_many_1 rfl hl (by decide) rfl (fun ls hl => ?_)
  refine lv_iconst (v := nI 0) hx hb dX2_many_2 (by decide +kernel) ?_
  refine lv_istore (lv' := [(4, .int (nI 0)), (3, .int (nI 0)), (0, .ref o), (1, .ref t), (2, .int (nI u))]) hx hb dX2_many_3 hl (by decide) rfl (fun ls hl => ?_)
  have L5 : ∀ (k5 : Nat) (i : Nat) (ls : Array Slot), i + k5 = u → lv_has ls 6 [(4, .int (nI i)), (3, .int (nI (ms_sc (fun i j => T (60 * i + j)) C i))), (0, .ref o), (1, .ref t), (2, .int (nI u))] → W p l e rm_0 s m args below meth c s.heap [] 0 0 Q (F0 m 5 ls []) := by
    intro k5
    induction k5 with
    | zero =>
      intro i ls hk5 hl
      refine lv_iload hx hb dX2_many_5 (lv_at hl 0 rfl) ?_
      refine lv_iload_n hx hb dX2_many_7 rfl (lv_at hl 4 rfl) ?_
      refine rv_ge_t (tgt := 56) hx hb dX2_many_8 (by decide) (by omega) (by omega) ?_
      refine lv_iload_n hx hb dX2_many_56 rfl (lv_at hl 1 rfl) ?_
      exact ret _ _ _ dX2_many_57 (rfl) (by rw [show u = i by omega])
    | succ k5 ih5 =>
      intro i ls hk5 hl
      refine lv_iload hx hb dX2_many_5 (lv_at hl 0 rfl) ?_
      refine lv_iload_n hx hb dX2_many_7 rfl (lv_at hl 4 rfl) ?_
      refine rv_ge_f (tgt := 56) hx hb dX2_many_8 (by decide) (by omega) (by omega) ?_
      refine lv_iconst (v := nI 0) hx hb dX2_many_11 (by decide +kernel) ?_
      refine lv_istore (lv' := [(5, .int (nI 0)), (4, .int (nI i)), (3, .int (nI (ms_sc (fun i j => T (60 * i + j)) C i))), (0, .ref o), (1, .ref t), (2, .int (nI u))]) hx hb dX2_many_12 hl (by decide) rfl (fun ls hl => ?_)
      have L14 : ∀ (k14 : Nat) (j : Nat) (ls : Array Slot), j + k14 = C → lv_has ls 6 [(5, .int (nI j)), (3, .int (nI (ms_sc (fun i j => T (60 * i + j)) C i + ms_rc (fun j => T (60 * i + j)) j))), (4, .int (nI i)), (0, .ref o), (1, .ref t), (2, .int (nI u))] → W p l e rm_0 s m args below meth c s.heap [] 0 0 Q (F0 m 14 ls []) := by
        intro k14
        induction k14 with
        | zero =>
          intro j ls hk14 hl
          have ej : ms_sc (fun i j => T (60 * i + j)) C i + ms_rc (fun j => T (60 * i + j)) j = ms_sc (fun i j => T (60 * i + j)) C (i + 1) := by rw [show j = C by omega]; rfl
          rw [ej] at hl
          refine lv_iload hx hb dX2_many_14 (lv_at hl 0 rfl) ?_
          refine lv_aload_n hx hb dX2_many_16 rfl (lv_at hl 3 rfl) ?_
          refine va_get (D := D) (ci := 2) (v := .int (nI C)) (C := RX2) (T := TX2) (N := 9) hx hb hts hin2 hown hK hP 0 rfl rfl 2 (by decide) f33 (fun _ h9 => h9) rfl dX2_many_17 ?_
          refine rv_ge_t (tgt := 50) hx hb dX2_many_20 (by decide) (by omega) (by omega) ?_
          refine lv_iinc (v := nI (i + 1)) (lv' := [(4, .int (nI (i + 1))), (5, .int (nI j)), (3, .int (nI (ms_sc (fun i j => T (60 * i + j)) C (i + 1)))), (0, .ref o), (1, .ref t), (2, .int (nI u))]) hx hb dX2_many_50 hl (k := 2) rfl (rv_inc _) (by decide) rfl (fun ls hl => ?_)
          refine lv_goto (tgt := 5) hx hb dX2_many_53 (by decide) ?_
          exact ih5 (i + 1) _ (by omega) (lv_sub hl [0, 2, 3, 4, 5] rfl)
        | succ k14 ih14 =>
          intro j ls hk14 hl
          refine lv_iload hx hb dX2_many_14 (lv_at hl 0 rfl) ?_
          refine lv_aload_n hx hb dX2_many_16 rfl (lv_at hl 3 rfl) ?_
          refine va_get (D := D) (ci := 2) (v := .int (nI C)) (C := RX2) (T := TX2) (N := 9) hx hb hts hin2 hown hK hP 0 rfl rfl 2 (by decide) f33 (fun _ h9 => h9) rfl dX2_many_17 ?_
          refine rv_ge_f (tgt := 50) hx hb dX2_many_20 (by decide) (by omega) (by omega) ?_
          refine lv_iload_n hx hb dX2_many_23 rfl (lv_at hl 1 rfl) ?_
          refine lv_aload_n hx hb dX2_many_24 rfl (lv_at hl 4 rfl) ?_
          refine lv_bipush (v := nI 60) hx hb dX2_many_25 (by decide +kernel) ?_
          refine lv_iload hx hb dX2_many_27 (lv_at hl 2 rfl) ?_
          refine rv_imul hx hb dX2_many_29 ?_
          refine lv_iload hx hb dX2_many_30 (lv_at hl 0 rfl) ?_
          refine rv_iadd hx hb dX2_many_32 ?_
          refine rv_iald hx hb hK hP 1 rfl rfl (by omega) (by omega) dX2_many_33 ?_
          refine lv_if_eq (tgt := 41) hx hb dX2_many_34 (by decide) (fun hz => ?_) (fun hz => ?_)
          · refine lv_iconst (v := nI 0) hx hb dX2_many_41 (by decide +kernel) ?_
            refine rv_iadd hx hb dX2_many_42 ?_
            refine lv_istore_n (lv' := [(3, .int (nI ((ms_sc (fun i j => T (60 * i + j)) C i + ms_rc (fun j => T (60 * i + j)) j) + 0))), (5, .int (nI j)), (4, .int (nI i)), (0, .ref o), (1, .ref t), (2, .int (nI u))]) hx hb dX2_many_43 rfl hl (by decide) rfl (fun ls hl => ?_)
            refine lv_iinc (v := nI (j + 1)) (lv' := [(5, .int (nI (j + 1))), (3, .int (nI ((ms_sc (fun i j => T (60 * i + j)) C i + ms_rc (fun j => T (60 * i + j)) j) + 0))), (4, .int (nI i)), (0, .ref o), (1, .ref t), (2, .int (nI u))]) hx hb dX2_many_44 hl (k := 1) rfl (rv_inc _) (by decide) rfl (fun ls hl => ?_)
            refine lv_goto (tgt := 14) hx hb dX2_many_47 (by decide) ?_
            have ez : ms_sc (fun i j => T (60 * i + j)) C i + ms_rc (fun j => T (60 * i + j)) j + 0 = ms_sc (fun i j => T (60 * i + j)) C i + ms_rc (fun j => T (60 * i + j)) (j + 1) := by rw [ms_rc_no (p := fun j => T (60 * i + j)) hz]; rfl
            rw [ez] at hl
            exact ih14 (j + 1) _ (by omega) (lv_sub hl [0, 1, 2, 3, 4, 5] rfl)
          · refine lv_iconst (v := nI 1) hx hb dX2_many_37 (by decide +kernel) ?_
            refine lv_goto (tgt := 42) hx hb dX2_many_38 (by decide) ?_
            refine rv_iadd hx hb dX2_many_42 ?_
            refine lv_istore_n (lv' := [(3, .int (nI ((ms_sc (fun i j => T (60 * i + j)) C i + ms_rc (fun j => T (60 * i + j)) j) + 1))), (5, .int (nI j)), (4, .int (nI i)), (0, .ref o), (1, .ref t), (2, .int (nI u))]) hx hb dX2_many_43 rfl hl (by decide) rfl (fun ls hl => ?_)
            refine lv_iinc (v := nI (j + 1)) (lv' := [(5, .int (nI (j + 1))), (3, .int (nI ((ms_sc (fun i j => T (60 * i + j)) C i + ms_rc (fun j => T (60 * i + j)) j) + 1))), (4, .int (nI i)), (0, .ref o), (1, .ref t), (2, .int (nI u))]) hx hb dX2_many_44 hl (k := 1) rfl (rv_inc _) (by decide) rfl (fun ls hl => ?_)
            refine lv_goto (tgt := 14) hx hb dX2_many_47 (by decide) ?_
            have ez : ms_sc (fun i j => T (60 * i + j)) C i + ms_rc (fun j => T (60 * i + j)) j + 1 = ms_sc (fun i j => T (60 * i + j)) C i + ms_rc (fun j => T (60 * i + j)) (j + 1) := by rw [ms_rc_yes (p := fun j => T (60 * i + j)) hz]; rfl
            rw [ez] at hl
            exact ih14 (j + 1) _ (by omega) (lv_sub hl [0, 1, 2, 3, 4, 5] rfl)
      exact L14 _ 0 _ (Nat.zero_add _) (lv_sub hl [0, 2, 1, 3, 4, 5] rfl)
  exact L5 _ 0 _ (Nat.zero_add _) (lv_sub hl [0, 1, 2, 3, 4] rfl)
end
section
/-! what a state IS: numbers K R C S np, the matrix, what is pending (summed by place), x, y; how the class holds it and how the reference does -/
abbrev st_A : Type := (Nat × Nat × Nat × Nat × Nat) × (Nat → Nat → Int32) × (Nat → Nat → Int32) × (Nat → Int32) × (Nat → Int32)
abbrev st_3 : Type := (Nat → Int32) × (Nat → Int32) × (Nat → Int32)
abbrev st_4 : Type := Nat × Nat × Nat × Nat
abbrev st_C : Type := st_4 × st_4 × st_3 × st_3 × st_3 × st_3
abbrev st_M : Type := (Nat × Nat) × (Nat → Int32) × (Nat → Int32) × st_3
def st_wC (cI : ClassId) (o ar ac av vx py li : Nat) : st_A → st_C → va_W
  | ((K, R, C, S, np), _, _, _, _), ((su, sa, sb, sc), (sp, ta, tb, tc), (f, g, w), (f2, g2, w2), (pR, pC, pV), (vX, pY, lI)) =>
    [(o, .inr (1, [.int (nI K), .int (nI R), .int (nI C), .ref su, .ref sp, .ref ar, .ref ac, .ref av, .int (nI np), .ref vx, .ref py, .ref li])), (su, .inr (0, [.ref sa, .ref sb, .ref sc])), (sa, .inl (cI, S + 1, .inl f)), (sb, .inl (cI, K, .inl g)), (sc, .inl (cI, K, .inl w)), (sp, .inr (0, [.ref ta, .ref tb, .ref tc])), (ta, .inl (cI, S + 1, .inl f2)), (tb, .inl (cI, K, .inl g2)), (tc, .inl (cI, K, .inl w2)), (ar, .inl (cI, K, .inl pR)), (ac, .inl (cI, K, .inl pC)), (av, .inl (cI, K, .inl pV)), (vx, .inl (cI, S, .inl vX)), (py, .inl (cI, S, .inl pY)), (li, .inl (cI, S, .inl lI))]
def st_wM (cI : ClassId) (o mo xx yy : Nat) : st_A → st_M → va_W
  | ((K, R, C, _, np), _, _, _, _), ((ta, ot), T, O, (E, xX, yY)) =>
    [(o, .inr (2, [.int (nI K), .int (nI R), .int (nI C), .int (nI np), .ref ta, .ref ot, .ref mo, .ref xx, .ref yy])), (ta, .inl (cI, 3600, .inl T)), (ot, .inl (cI, 3600, .inl O)), (mo, .inl (cI, 3600, .inl E)), (xx, .inl (cI, 60, .inl xX)), (yy, .inl (cI, 60, .inl yY))]
def st_WF (K R C S np : Nat) (M : Nat → Nat → Int32) : Prop := (1 ≤ R ∧ 1 ≤ C ∧ R ≤ S ∧ C ≤ S ∧ S ≤ 60 ∧ 1 ≤ K ∧ K ≤ 1000 ∧ np ≤ K) ∧ ∀ i j, R ≤ i ∨ C ≤ j → M i j = 0
def st_ps (pR pC pV : Nat → Int32) (i j np : Nat) : Int32 := ms_sm (fun p => if pC p = nI j then (if pR p = nI i then pV p else 0) else 0) np
def st_RC (K R C S np : Nat) (M P : Nat → Nat → Int32) (X Y f g w f2 pR pC pV vX pY : Nat → Int32) : Prop :=
  st_WF K R C S np M ∧ ms_Sup K S R M f g w ∧ f2 0 = 0 ∧ (∀ p, p < np → ∃ i j, i < R ∧ j < C ∧ pR p = nI i ∧ pC p = nI j) ∧ (∀ i j, i < 60 → j < 60 → P i j = st_ps pR pC pV i j np) ∧ (∀ j, j < C → vX j = X j) ∧ ∀ i, i < R → pY i = Y i
def st_RM (K R C S np : Nat) (M P : Nat → Nat → Int32) (X Y T E xX yY : Nat → Int32) : Prop :=
  st_WF K R C S np M ∧ (∀ i j, i < R → j < C → T (60 * i + j) = M i j) ∧ (∀ i j, i < 60 → j < 60 → E (60 * i + j) = P i j) ∧ (np = 0 → ∀ i j, i < 60 → j < 60 → P i j = 0) ∧ (∀ j, j < C → xX j = X j) ∧ ∀ i, i < R → yY i = Y i
def st_rc : st_A → st_C → Prop
  | ((K, R, C, S, np), M, P, X, Y), (_, _, (f, g, w), (f2, _, _), (pR, pC, pV), (vX, pY, _)) => st_RC K R C S np M P X Y f g w f2 pR pC pV vX pY
def st_rm : st_A → st_M → Prop
  | ((K, R, C, S, np), M, P, X, Y), (_, T, _, (E, xX, yY)) => st_RM K R C S np M P X Y T E xX yY
/-- what each call answers and what it makes of a state -/
def an_add : st_A → Int32 → Int32 → Int32 × Bool
  | ((K, R, C, _, np), _, _, _, _), i, j => (ms_bI (ms_in i R && ms_in j C && decide (np < K)), (ms_in i R && ms_in j C && decide (np < K)))
def up_add : st_A → Int32 → Int32 → Int32 → st_A
  | ((K, R, C, S, np), M, P, X, Y), i, j, v => if (ms_in i R && ms_in j C && decide (np < K)) = true then ((K, R, C, S, np + 1), M, (fun a b => if nI a = i ∧ nI b = j then P a b + v else P a b), X, Y) else ((K, R, C, S, np), M, P, X, Y)
def ms_pl (R C : Nat) (M P : Nat → Nat → Int32) : Nat → Nat → Int32 := fun i j => if i < R ∧ j < C then M i j + P i j else 0
def ms_sq (S : Nat) (M : Nat → Nat → Int32) : Nat → Nat → Int32 := fun i j => ms_sm (fun k => M i k * M k j) S
def an_build : st_A → Int32
  | ((K, R, C, S, _), M, P, _, _) => if ms_sc (ms_pl R C M P) S R ≤ K then nI (ms_sc (ms_pl R C M P) S R) else -1
def up_build : st_A → st_A
  | ((K, R, C, S, np), M, P, X, Y) => if ms_sc (ms_pl R C M P) S R ≤ K then ((K, R, C, S, 0), ms_pl R C M P, (fun _ _ => 0), X, Y) else ((K, R, C, S, np), M, P, X, Y)
def an_nnz : st_A → Int32
  | ((_, R, _, S, _), M, _, _, _) => nI (ms_sc M S R)
def an_at : st_A → Int32 → Int32 → Int32
  | ((_, R, C, _, _), M, _, _, _), i, j => if (ms_in i R && ms_in j C) = true then M i.toNatClampNeg j.toNatClampNeg else 0
def an_rowStart : st_A → Int32 → Int32
  | ((_, R, _, S, _), M, _, _, _), i => if ms_in i (R + 1) = true then nI (ms_sc M S i.toNatClampNeg) else -1
def an_colAt : st_A → Int32 → Int32 → Prop
  | ((_, R, _, S, _), M, _, _, _), k, r => (∃ i j, i < R ∧ j < S ∧ ¬ M i j = 0 ∧ k = nI (ms_sc M S i + ms_rc (M i) j) ∧ r = nI j) ∨ (r = -1 ∧ (k < 0 ∨ nI (ms_sc M S R) ≤ k))
def an_setX : st_A → Int32 → Int32
  | ((_, _, C, _, _), _, _, _, _), j => ms_bI (ms_in j C)
def up_setX : st_A → Int32 → Int32 → st_A
  | ((K, R, C, S, np), M, P, X, Y), j, v => if ms_in j C = true then ((K, R, C, S, np), M, P, upd X j.toNatClampNeg v, Y) else ((K, R, C, S, np), M, P, X, Y)
def up_mul : st_A → st_A
  | ((K, R, C, S, np), M, P, X, _) => ((K, R, C, S, np), M, P, X, fun i => ms_sm (fun j => M i j * X j) C)
def an_y : st_A → Int32 → Int32
  | ((_, R, _, _, _), _, _, _, Y), i => if ms_in i R = true then Y i.toNatClampNeg else 0
def an_turn : st_A → Int32
  | ((_, _, _, _, np), _, _, _, _) => if np = 0 then 1 else 0
def up_turn : st_A → st_A
  | ((K, R, C, S, np), M, P, X, Y) => if np = 0 then ((K, C, R, S, np), (fun i j => M j i), P, (fun _ => 0), fun _ => 0) else ((K, R, C, S, np), M, P, X, Y)
def an_square : st_A → Int32
  | ((K, R, C, S, _), M, _, _, _) => if R = C then (if ms_sc (ms_sq S M) S R ≤ K then nI (ms_sc (ms_sq S M) S R) else -1) else -2
def up_square : st_A → st_A
  | ((K, R, C, S, np), M, P, X, Y) => if R = C then (if ms_sc (ms_sq S M) S R ≤ K then ((K, R, C, S, np), ms_sq S M, P, X, Y) else ((K, R, C, S, np), M, P, X, Y)) else ((K, R, C, S, np), M, P, X, Y)
def an_count : st_A → Int32 → Int32
  | ((K, R, C, _, np), _, _, _, _), w => if w = 0 then nI R else if w = 1 then nI C else if w = 2 then nI K else if w = 3 then nI np else -1
/-- a place by its number is one place -/
theorem ms_place {M : Nat → Nat → Int32} {S i j a b : Nat} (hj : j < S) (hb : b < S) (h1 : ¬ M i j = 0) (h2 : ¬ M a b = 0) (e : ms_sc M S i + ms_rc (M i) j = ms_sc M S a + ms_rc (M a) b) : j = b := by
  rcases Nat.lt_trichotomy i a with h | h | h
  · have := ms_sc_lt (R := a) h hj h1
    omega
  · subst h
    rcases Nat.lt_trichotomy j b with k | k | k
    · have := ms_rc_lt (p := M i) k h1
      omega
    · exact k
    · have := ms_rc_lt (p := M i) k h2
      omega
  · have := ms_sc_lt (R := i) h hb h2
    omega
theorem an_colAt_one {a : st_A} {k r r2 : Int32} (hS : a.1.2.2.2.1 ≤ 60) (hR : a.1.2.1 ≤ 60) (h1 : an_colAt a k r) (h2 : an_colAt a k r2) : r = r2 := by
  obtain ⟨⟨K, R, C, S, np⟩, M, P, X, Y⟩ := a
  have hS : S ≤ 60 := hS
  have hR : R ≤ 60 := hR
  have hm : ms_sc M S R ≤ R * S := ms_sc_le M S R
  have hm2 : R * S ≤ 60 * 60 := Nat.mul_le_mul hR hS
  have key : ∀ i j : Nat, i < R → j < S → ¬ M i j = 0 → ∀ k : Int32, k = nI (ms_sc M S i + ms_rc (M i) j) → ¬ (k < 0 ∨ nI (ms_sc M S R) ≤ k) := by
    intro i j hi hj hz k hk q
    subst hk
    have := ms_sc_lt hi hj hz
    rcases q with q | q
    · exact nI_pos (by omega) q
    · rw [nI_leI (by omega) (by omega)] at q
      omega
  rcases h1 with ⟨i, j, a1, a2, a3, a4, a5⟩ | ⟨a1, a2⟩
  · rcases h2 with ⟨i2, j2, b1, b2, b3, b4, b5⟩ | ⟨b1, b2⟩
    · have p1 := ms_sc_lt a1 a2 a3
      have p2 := ms_sc_lt b1 b2 b3
      rw [a4] at b4
      rw [nI_eq (by omega) (by omega)] at b4
      rw [a5, b5, ms_place a2 b2 a3 b3 b4]
    · exact absurd b2 (key i j a1 a2 a3 k a4)
  · rcases h2 with ⟨i2, j2, b1, b2, b3, b4, b5⟩ | ⟨b1, b2⟩
    · exact absurd a2 (key i2 j2 b1 b2 b3 k b4)
    · rw [a1, b1]
/-- the class: what is pending -/
theorem st_ps_add {pR pC pV : Nat → Int32} {np i0 j0 a b : Nat} {v : Int32} (hi : i0 < 60) (hj : j0 < 60) (ha : a < 60) (hb : b < 60) : st_ps (upd pR np (nI i0)) (upd pC np (nI j0)) (upd pV np v) a b (np + 1) = if nI a = nI i0 ∧ nI b = nI j0 then st_ps pR pC pV a b np + v else st_ps pR pC pV a b np := by
  unfold st_ps
  rw [ms_sm]
  rw [ms_sm_congr (G := fun p => if pC p = nI b then (if pR p = nI a then pV p else 0) else 0) (fun t ht => by rw [pk_un (show t ≠ np by omega), pk_un (show t ≠ np by omega), pk_un (show t ≠ np by omega)])]
  rw [pk_us, pk_us, pk_us]
  by_cases h1 : nI j0 = nI b
  · by_cases h2 : nI i0 = nI a
    · rw [if_pos h1, if_pos h2, if_pos ⟨h2.symm, h1.symm⟩]
    · rw [if_pos h1, if_neg h2, if_neg (fun q => h2 q.1.symm), Int32.add_zero]
  · rw [if_neg h1, if_neg (fun q => h1 q.2.symm), Int32.add_zero]
theorem st_ps_out {pR pC pV : Nat → Int32} {R C np i j : Nat} (hC : C ≤ 60) (hj : j < 60) (h : ∀ p, p < np → ∃ i j, i < R ∧ j < C ∧ pR p = nI i ∧ pC p = nI j) (hc : C ≤ j) : st_ps pR pC pV i j np = 0 := by
  refine ms_sm_zero (fun t ht => if_neg (fun q => ?_))
  obtain ⟨a, b, h1, h2, h3, h4⟩ := h t ht
  rw [h4, nI_eq (by omega) (by omega)] at q
  omega
/-- a row of the sum, as the class makes it -/
theorem st_line {K R C S np i : Nat} {M P : Nat → Nat → Int32} {X Y f g w f2 pR pC pV vX pY u1 u2 u3 : Nat → Int32} (h : st_RC K R C S np M P X Y f g w f2 pR pC pV vX pY) (hi : i < R) (h1 : ∀ j, j < S → u1 j = nI 0) (h2 : ∀ j, j < S → u2 j = u1 j + nI 1 * M i j) (h3 : ∀ j, u3 j = u2 j + ms_sm (fun p => if (pC p).toNatClampNeg = j then (if pR p = nI i then pV p else 0) else 0) np) : ∀ j, j < S → u3 j = ms_pl R C M P i j := by
  obtain ⟨⟨⟨w1, w2, w3, w4, w5, w6, w7, w8⟩, hM⟩, -, -, hp, hps, -, -⟩ := h
  intro j hj
  have e : ms_sm (fun p => if (pC p).toNatClampNeg = j then (if pR p = nI i then pV p else 0) else 0) np = st_ps pR pC pV i j np := by
    refine ms_sm_congr (fun t ht => ?_)
    obtain ⟨a, b, k1, k2, k3, k4⟩ := hp t ht
    have e1 : (pC t).toNatClampNeg = b := by rw [k4, nI_clamp (by omega)]
    have e2 : (pC t = nI j) = (b = j) := by rw [k4, nI_eq (by omega) (by omega)]
    rw [e1]
    by_cases c : b = j
    · rw [if_pos c, if_pos (e2.mpr c)]
    · rw [if_neg c, if_neg (fun q => c (e2.mp q))]
  rw [h3, e, h2 j hj, h1 j hj, ms_nz, ms_n1, Int32.zero_add, Int32.one_mul]
  unfold ms_pl
  by_cases c : j < C
  · rw [if_pos ⟨hi, c⟩, hps i j (by omega) (by omega)]
  · rw [if_neg (fun q => c q.2), hM i j (Or.inr (by omega)), st_ps_out (by omega) (by omega) hp (by omega), Int32.add_zero]
theorem st_pl0 {R C : Nat} {M P : Nat → Nat → Int32} : ∀ i j, R ≤ i ∨ C ≤ j → ms_pl R C M P i j = 0 := fun i j h => if_neg (fun q => by omega)
theorem st_build {K R C S np : Nat} {M P : Nat → Nat → Int32} {X Y f g w f2 pR pC pV vX pY f3 g3 w3 : Nat → Int32} (h : st_RC K R C S np M P X Y f g w f2 pR pC pV vX pY) (hs : ms_Sup K S R (ms_pl R C M P) f3 g3 w3) : st_RC K R C S 0 (ms_pl R C M P) (fun _ _ => 0) X Y f3 g3 w3 f pR pC pV vX pY := by
  obtain ⟨⟨⟨w1, w2, w3, w4, w5, w6, w7, w8⟩, hM⟩, h2, h3, hp, hps, hX, hY⟩ := h
  exact ⟨⟨⟨w1, w2, w3, w4, w5, w6, w7, Nat.zero_le _⟩, st_pl0⟩, hs, h2.1 0 (Nat.zero_le _), fun p hp => absurd hp (Nat.not_lt_zero p), fun i j _ _ => rfl, hX, hY⟩
theorem st_spare {K R C S np : Nat} {M P : Nat → Nat → Int32} {X Y f g w f2 f3 pR pC pV vX pY : Nat → Int32} (h : st_RC K R C S np M P X Y f g w f2 pR pC pV vX pY) (h0 : f3 0 = 0) : st_RC K R C S np M P X Y f g w f3 pR pC pV vX pY := ⟨h.1, h.2.1, h0, h.2.2.2⟩
theorem st_sup0 {K S i : Nat} {N : Nat → Nat → Int32} {f g w : Nat → Int32} (h : ms_Sup K S i N f g w) : f 0 = 0 := h.1 0 (Nat.zero_le _)
theorem ms_sc_over {K S R i : Nat} {N : Nat → Nat → Int32} {Z : Nat → Int32} (hi : i < R) (hZ : ∀ j, j < S → Z j = N i j) (h : K < ms_sc N S i + ms_rc Z S) : ¬ ms_sc N S R ≤ K := by
  have h1 := ms_sc_mn N S (show i + 1 ≤ R from hi)
  rw [ms_sc, ← ms_rc_congr hZ] at h1
  omega
theorem st_square {K R C S np : Nat} {M P : Nat → Nat → Int32} {X Y f g w f2 pR pC pV vX pY f3 g3 w3 : Nat → Int32} (h : st_RC K R C S np M P X Y f g w f2 pR pC pV vX pY) (hs : ms_Sup K S R (ms_sq S M) f3 g3 w3) : st_RC K R C S np (ms_sq S M) P X Y f3 g3 w3 f pR pC pV vX pY := by
  obtain ⟨⟨hw, hM⟩, h2, h3, hp, hps, hX, hY⟩ := h
  refine ⟨⟨hw, fun i j hij => ms_sm_zero (fun t ht => ?_)⟩, hs, h2.1 0 (Nat.zero_le _), hp, hps, hX, hY⟩
  rcases hij with q | q
  · rw [hM i t (Or.inl q), Int32.zero_mul]
  · rw [hM t j (Or.inr q), Int32.mul_zero]
theorem st_turn {K R C S : Nat} {M P : Nat → Nat → Int32} {X Y f g w f2 pR pC pV vX pY f3 g3 w3 vX2 pY2 : Nat → Int32} (h : st_RC K R C S 0 M P X Y f g w f2 pR pC pV vX pY) (hs : ms_Sup K S C (fun i j => M j i) f3 g3 w3) (hv : ∀ j, j < S → vX2 j = nI 0) (hy : ∀ j, j < S → pY2 j = nI 0) : st_RC K C R S 0 (fun i j => M j i) P (fun _ => 0) (fun _ => 0) f3 g3 w3 f pR pC pV vX2 pY2 := by
  obtain ⟨⟨⟨w1, w2, w3, w4, w5, w6, w7, w8⟩, hM⟩, h2, h3, hp, hps, hX, hY⟩ := h
  exact ⟨⟨⟨w2, w1, w4, w3, w5, w6, w7, w8⟩, fun i j q => hM j i q.symm⟩, hs, h2.1 0 (Nat.zero_le _), fun p hp => absurd hp (Nat.not_lt_zero p), hps, fun j hj => hv j (by omega), fun i hi => hy i (by omega)⟩
theorem st_adds {K R C S np i0 j0 : Nat} {M P : Nat → Nat → Int32} {X Y f g w f2 pR pC pV vX pY : Nat → Int32} {v : Int32} (h : st_RC K R C S np M P X Y f g w f2 pR pC pV vX pY) (hi : i0 < R) (hj : j0 < C) (hn : np < K) : st_RC K R C S (np + 1) M (fun a b => if nI a = nI i0 ∧ nI b = nI j0 then P a b + v else P a b) X Y f g w f2 (upd pR np (nI i0)) (upd pC np (nI j0)) (upd pV np v) vX pY := by
  obtain ⟨⟨⟨w1, w2, w3, w4, w5, w6, w7, w8⟩, hM⟩, h2, h3, hp, hps, hX, hY⟩ := h
  refine ⟨⟨⟨w1, w2, w3, w4, w5, w6, w7, hn⟩, hM⟩, h2, h3, fun p hp2 => ?_, fun a b ha hb => ?_, hX, hY⟩
  · by_cases c : p = np
    · subst c
      exact ⟨i0, j0, hi, hj, pk_us, pk_us⟩
    · rw [pk_un c, pk_un c]
      exact hp p (by omega)
  · rw [st_ps_add (by omega) (by omega) ha hb]
    show (if nI a = nI i0 ∧ nI b = nI j0 then P a b + v else P a b) = _
    rw [hps a b ha hb]
theorem st_setx {K R C S np j0 : Nat} {M P : Nat → Nat → Int32} {X Y f g w f2 pR pC pV vX pY : Nat → Int32} {v : Int32} (h : st_RC K R C S np M P X Y f g w f2 pR pC pV vX pY) : st_RC K R C S np M P (upd X j0 v) Y f g w f2 pR pC pV (upd vX j0 v) pY := by
  obtain ⟨hw, h2, h3, hp, hps, hX, hY⟩ := h
  refine ⟨hw, h2, h3, hp, hps, fun j hj => ?_, hY⟩
  by_cases c : j = j0
  · subst c
    rw [pk_us, pk_us]
  · rw [pk_un c, pk_un c]
    exact hX j hj
theorem st_mul {K R C S np : Nat} {M P : Nat → Nat → Int32} {X Y f g w f2 pR pC pV vX pY pY2 : Nat → Int32} (h : st_RC K R C S np M P X Y f g w f2 pR pC pV vX pY) (hy : ∀ i, i < R → pY2 i = ms_sm (fun j => M i j * vX j) S) : st_RC K R C S np M P X (fun i => ms_sm (fun j => M i j * X j) C) f g w f2 pR pC pV vX pY2 := by
  obtain ⟨⟨⟨w1, w2, w3, w4, w5, w6, w7, w8⟩, hM⟩, h2, h3, hp, hps, hX, hY⟩ := h
  refine ⟨⟨⟨w1, w2, w3, w4, w5, w6, w7, w8⟩, hM⟩, h2, h3, hp, hps, hX, fun i hi => ?_⟩
  have e := ms_sm_wide (F := fun j => M i j * vX j) (a := C) (S - C) (fun t ht => by rw [hM i t (Or.inr ht), Int32.zero_mul])
  rw [show C + (S - C) = S by omega] at e
  rw [hy i hi, e]
  exact ms_sm_congr (fun t ht => by rw [hX t ht])
end
section
section RSC
variable {p : Program} {l : Launch} {e : Env} {R : Room} {s : State} {m : MethodId} {args : Array Value} {below : List Frame} {meth : Method} {c : Code} {H : Heap} {locs : List Loc} {cells slots : Nat} {Q : State → Prop}
variable {cc : ByteArray} {pc : Nat} {ls : Array Slot} {rest : List Value}
theorem rv_ifne_t (hx : p.tables.exec = Jvm.exec) (hb : c.code = cc) {x : Int32} {off : Int} {tgt : Nat} (hdg : decode cc pc = .ok (.ifCond .ne off, 3)) (ht : (pc : Int) + off = (tgt : Int)) (h : ¬ x = 0) (kt : W p l e R s m args below meth c H locs cells slots Q (F0 m tgt ls rest)) : W p l e R s m args below meth c H locs cells slots Q (F0 m pc ls (.int x :: rest)) := lv_if_ne hx hb hdg ht (fun _ => kt) (fun q => absurd q h)
theorem rv_ifne_f (hx : p.tables.exec = Jvm.exec) (hb : c.code = cc) {x : Int32} {off : Int} {tgt : Nat} (hdg : decode cc pc = .ok (.ifCond .ne off, 3)) (ht : (pc : Int) + off = (tgt : Int)) (h : x = 0) (kf : W p l e R s m args below meth c H locs cells slots Q (F0 m (pc + 3) ls rest)) : W p l e R s m args below meth c H locs cells slots Q (F0 m pc ls (.int x :: rest)) := lv_if_ne hx hb hdg ht (fun q => absurd h q) (fun _ => kf)
end RSC
section ANS
variable {K R C S np : Nat} {M P : Nat → Nat → Int32} {X Y : Nat → Int32} {i j v : Int32}
theorem an_at_t {a b : Nat} (hi : a < R) (hj : b < C) (hR : R ≤ 60) (hC : C ≤ 60) : M a b = an_at ((K, R, C, S, np), M, P, X, Y) (nI a) (nI b) := by
  show _ = if (ms_in (nI a) R && ms_in (nI b) C) = true then M (nI a).toNatClampNeg (nI b).toNatClampNeg else 0
  rw [ms_in_nI hi (by omega), ms_in_nI hj (by omega), nI_clamp (by omega), nI_clamp (by omega)]
  rfl
theorem an_at_f (h : (ms_in i R && ms_in j C) = false) : nI 0 = an_at ((K, R, C, S, np), M, P, X, Y) i j := by
  show _ = if (ms_in i R && ms_in j C) = true then M i.toNatClampNeg j.toNatClampNeg else 0
  rw [h]
  exact ms_nz
theorem an_rs_t {a : Nat} (hi : a < R + 1) (hR : R ≤ 60) : nI (ms_sc M S a) = an_rowStart ((K, R, C, S, np), M, P, X, Y) (nI a) := by
  show _ = if ms_in (nI a) (R + 1) = true then nI (ms_sc M S (nI a).toNatClampNeg) else -1
  rw [ms_in_nI hi (by omega), nI_clamp (by omega)]
  rfl
theorem an_rs_f (h : ms_in i (R + 1) = false) : (-1 : Int32) = an_rowStart ((K, R, C, S, np), M, P, X, Y) i := by
  show _ = if ms_in i (R + 1) = true then nI (ms_sc M S i.toNatClampNeg) else -1
  rw [h]
  rfl
theorem an_y_t {a : Nat} (hi : a < R) (hR : R ≤ 60) : Y a = an_y ((K, R, C, S, np), M, P, X, Y) (nI a) := by
  show _ = if ms_in (nI a) R = true then Y (nI a).toNatClampNeg else 0
  rw [ms_in_nI hi (by omega), nI_clamp (by omega)]
  rfl
theorem an_y_f (h : ms_in i R = false) : nI 0 = an_y ((K, R, C, S, np), M, P, X, Y) i := by
  show _ = if ms_in i R = true then Y i.toNatClampNeg else 0
  rw [h]
  exact ms_nz
theorem an_add_t (h : (ms_in i R && ms_in j C && decide (np < K)) = true) : nI 1 = (an_add ((K, R, C, S, np), M, P, X, Y) i j).1 ∧ up_add ((K, R, C, S, np), M, P, X, Y) i j v = ((K, R, C, S, np + 1), M, (fun a b => if nI a = i ∧ nI b = j then P a b + v else P a b), X, Y) := ⟨ms_bI_t h, if_pos h⟩
theorem an_add_f (h : (ms_in i R && ms_in j C && decide (np < K)) = false) : nI 0 = (an_add ((K, R, C, S, np), M, P, X, Y) i j).1 ∧ up_add ((K, R, C, S, np), M, P, X, Y) i j v = ((K, R, C, S, np), M, P, X, Y) := ⟨ms_bI_f h, if_neg (by rw [h]; decide)⟩
theorem an_add_c1 (h : (ms_in i R && ms_in j C) = false) : (ms_in i R && ms_in j C && decide (np < K)) = false := by rw [h]; rfl
theorem an_add_c2 (h : K ≤ np) : (ms_in i R && ms_in j C && decide (np < K)) = false := by rw [decide_eq_false (by omega)]; simp
theorem an_add_c3 {a b : Nat} (hi : a < R) (hj : b < C) (hR : R ≤ 60) (hC : C ≤ 60) (h : np < K) : (ms_in (nI a) R && ms_in (nI b) C && decide (np < K)) = true := by rw [ms_in_nI hi (by omega), ms_in_nI hj (by omega), decide_eq_true h]; rfl
theorem an_setX_t {b : Nat} (hj : b < C) (hC : C ≤ 60) : nI 1 = an_setX ((K, R, C, S, np), M, P, X, Y) (nI b) ∧ up_setX ((K, R, C, S, np), M, P, X, Y) (nI b) v = ((K, R, C, S, np), M, P, upd X b v, Y) := by
  refine ⟨ms_bI_t (ms_in_nI hj (by omega)), ?_⟩
  show (if ms_in (nI b) C = true then ((K, R, C, S, np), M, P, upd X (nI b).toNatClampNeg v, Y) else ((K, R, C, S, np), M, P, X, Y)) = _
  rw [if_pos (ms_in_nI hj (by omega)), nI_clamp (by omega)]
theorem an_setX_f (h : ms_in j C = false) : nI 0 = an_setX ((K, R, C, S, np), M, P, X, Y) j ∧ up_setX ((K, R, C, S, np), M, P, X, Y) j v = ((K, R, C, S, np), M, P, X, Y) := ⟨ms_bI_f h, if_neg (by rw [h]; decide)⟩
theorem an_build_t (h : ms_sc (ms_pl R C M P) S R ≤ K) : nI (ms_sc (ms_pl R C M P) S R) = an_build ((K, R, C, S, np), M, P, X, Y) ∧ up_build ((K, R, C, S, np), M, P, X, Y) = ((K, R, C, S, 0), ms_pl R C M P, (fun _ _ => 0), X, Y) := ⟨(if_pos h).symm, if_pos h⟩
theorem an_build_f (h : ¬ ms_sc (ms_pl R C M P) S R ≤ K) : (-1 : Int32) = an_build ((K, R, C, S, np), M, P, X, Y) ∧ up_build ((K, R, C, S, np), M, P, X, Y) = ((K, R, C, S, np), M, P, X, Y) := ⟨(if_neg h).symm, if_neg h⟩
theorem an_square_n (h : ¬ R = C) : (-2 : Int32) = an_square ((K, R, C, S, np), M, P, X, Y) ∧ up_square ((K, R, C, S, np), M, P, X, Y) = ((K, R, C, S, np), M, P, X, Y) := ⟨(if_neg h).symm, if_neg h⟩
theorem an_square_t (e : R = C) (h : ms_sc (ms_sq S M) S R ≤ K) : nI (ms_sc (ms_sq S M) S R) = an_square ((K, R, C, S, np), M, P, X, Y) ∧ up_square ((K, R, C, S, np), M, P, X, Y) = ((K, R, C, S, np), ms_sq S M, P, X, Y) := ⟨((if_pos e).trans (if_pos h)).symm, (if_pos e).trans (if_pos h)⟩
theorem an_square_f (e : R = C) (h : ¬ ms_sc (ms_sq S M) S R ≤ K) : (-1 : Int32) = an_square ((K, R, C, S, np), M, P, X, Y) ∧ up_square ((K, R, C, S, np), M, P, X, Y) = ((K, R, C, S, np), M, P, X, Y) := ⟨((if_pos e).trans (if_neg h)).symm, (if_pos e).trans (if_neg h)⟩
theorem an_turn_t (h : np = 0) : nI 1 = an_turn ((K, R, C, S, np), M, P, X, Y) ∧ up_turn ((K, R, C, S, np), M, P, X, Y) = ((K, C, R, S, np), (fun i j => M j i), P, (fun _ => 0), fun _ => 0) := ⟨by rw [ms_n1]; exact (if_pos h).symm, if_pos h⟩
theorem an_turn_f (h : ¬ np = 0) : nI 0 = an_turn ((K, R, C, S, np), M, P, X, Y) ∧ up_turn ((K, R, C, S, np), M, P, X, Y) = ((K, R, C, S, np), M, P, X, Y) := ⟨by rw [ms_nz]; exact (if_neg h).symm, if_neg h⟩
theorem an_colAt_g {f g w : Nat → Int32} (hs : ms_Sup K S R M f g w) {q : Nat} (hq : q < ms_sc M S R) : an_colAt ((K, R, C, S, np), M, P, X, Y) (nI q) (g q) := by
  obtain ⟨i, j, h1, h2, h3, h4⟩ := ms_sc_at M S R q hq
  subst h4
  exact Or.inl ⟨i, j, h1, h2, h3, rfl, (hs.2.2 i j h1 h2 h3).1⟩
end ANS
theorem ms_out3 {x : Int32} (h0 : ¬ x = 0) (h1 : ¬ x = 1) (h2 : ¬ x = 2) (h3 : ¬ x = 3) : x.toInt < 0 ∨ 3 < x.toInt := by
  rw [ms_eq] at h0 h1 h2 h3
  have z0 : (0 : Int32).toInt = 0 := by decide
  have z1 : (1 : Int32).toInt = 1 := by decide
  have z2 : (2 : Int32).toInt = 2 := by decide
  have z3 : (3 : Int32).toInt = 3 := by decide
  omega
end
section
theorem ms_updstep {f F : Nat → Int32} {j : Nat} (hf : ∀ t, t < j → f t = F t) : ∀ t, t < j + 1 → upd f j (F j) t = F t := by
  intro t ht
  by_cases e : t = j
  · subst e
    exact pk_us
  · rw [pk_un e]
    exact hf t (by omega)
theorem st_pcol {R C S np p : Nat} {pR pC : Nat → Int32} (hC : C ≤ S ∧ S ≤ 60) (h : ∀ p, p < np → ∃ i j, i < R ∧ j < C ∧ pR p = nI i ∧ pC p = nI j) (hp : p < np) : pC p = nI (pC p).toNatClampNeg ∧ (pC p).toNatClampNeg < S := by
  obtain ⟨a, b, h1, h2, h3, h4⟩ := h p hp
  rw [h4, nI_clamp (by omega)]
  exact ⟨rfl, by omega⟩
end
section
set_option maxHeartbeats 4000000 in
set_option maxRecDepth 100000 in
theorem c_nnz (l : Launch) (D : va_G) (cI : ClassId) (o ar ac av vx py li : Nat) (a : st_A) (u : st_C) (hr : st_rc a u)  : MetR l yX1_nnz wsX1_nnz rm_1 D [(cI, .int)] [.ref o] (st_wC cI o ar ac av vx py li a u) (fun r => r = an_nnz a) := by
  obtain ⟨⟨K, R, C, S, np⟩, M0, P, X, Y⟩ := a
  obtain ⟨⟨su, sa, sb, sc⟩, ⟨sp, ta, tb, tc⟩, ⟨f, g, w⟩, ⟨f2, g2, w2⟩, ⟨pR, pC, pV⟩, ⟨vX, pY, lI⟩⟩ := u
  have hr : st_RC K R C S np M0 P X Y f g w f2 pR pC pV vX pY := hr
  obtain ⟨⟨⟨b1, b2, b3, b4, b5, b6, b7, b8⟩, hM⟩, hsup, hf2, hpe, hps, hX, hY⟩ := id hr
  refine rs_R (cc := cX1_nnz) (maxL := 1) (rty := .int) (by decide) rfl (Nat.le_of_ble_eq_true rfl) ?_
  intro p e s m args below meth c Q ls hx hb hml hown hts hP hK hl ret
  have f13 := hts (.fieldLink RX1 13 "RowSparse" "rows" "I") (by decide +kernel)
  have f33 := hts (.fieldLink RX1 33 "RowSparse" "support" "LRowSparse$Support;") (by decide +kernel)
  have hin1 : ∀ w ∈ u_ws RX1 TX1 12, w ∈ wsX1_nnz := by decide +kernel
  have hl : lv_has ls 1 [(0, .ref o)] := hl
  have hP : va_P D vwCl [(o, .inr (1, [.int (nI K), .int (nI R), .int (nI C), .ref su, .ref sp, .ref ar, .ref ac, .ref av, .int (nI np), .ref vx, .ref py, .ref li])), (su, .inr (0, [.ref sa, .ref sb, .ref sc])), (sa, .inl (cI, S + 1, .inl f)), (sb, .inl (cI, K, .inl g)), (sc, .inl (cI, K, .inl w)), (sp, .inr (0, [.ref ta, .ref tb, .ref tc])), (ta, .inl (cI, S + 1, .inl f2)), (tb, .inl (cI, K, .inl g2)), (tc, .inl (cI, K, .inl w2)), (ar, .inl (cI, K, .inl pR)), (ac, .inl (cI, K, .inl pC)), (av, .inl (cI, K, .inl pV)), (vx, .inl (cI, S, .inl vX)), (py, .inl (cI, S, .inl pY)), (li, .inl (cI, S, .inl lI))] s.heap := hP
  refine lv_aload_n hx hb dX1_nnz_0 rfl (lv_at hl 0 rfl) ?_
  refine va_get (D := D) (ci := 1) (v := .ref su) (C := RX1) (T := TX1) (N := 12) hx hb hts hin1 hown hK hP 0 rfl rfl 3 (by decide) f33 (fun _ h9 => h9) rfl dX1_nnz_1 ?_
  refine lv_aload_n hx hb dX1_nnz_4 rfl (lv_at hl 0 rfl) ?_
  refine va_get (D := D) (ci := 1) (v := .int (nI R)) (C := RX1) (T := TX1) (N := 12) hx hb hts hin1 hown hK hP 0 rfl rfl 1 (by decide) f13 (fun _ h9 => h9) rfl dX1_nnz_5 ?_
  refine rs_cR (As := [.int (nI R)]) (rest := []) ⟨hx, hb, hml, hown, hts⟩ hl.1 (c_placesAhead l D cI su sa sb sc (S + 1) R f (by omega) (by omega)) (cwV 1 hts gX1_nnz_X0_placesAhead rfl rfl rfl (by decide +kernel) ⟨Nat.le_of_ble_eq_true rfl, Nat.le_of_ble_eq_true rfl⟩) hK hP [1, 2] rfl rfl rfl rfl rfl (Nat.le_of_ble_eq_true rfl) dX1_nnz_8 (Nat.le_of_ble_eq_true rfl) (Nat.le_of_ble_eq_true rfl) (fun r hr => ?_)
  subst hr
  exact ret _ _ _ dX1_nnz_11 (rfl) (hsup.1 R (Nat.le_refl _))

set_option maxHeartbeats 4000000 in
set_option maxRecDepth 100000 in
theorem c_at (l : Launch) (D : va_G) (cI : ClassId) (o ar ac av vx py li : Nat) (a : st_A) (u : st_C) (hr : st_rc a u) (i j : Int32) : MetR l yX1_at wsX1_at rm_2 D [(cI, .int)] [.ref o, .int i, .int j] (st_wC cI o ar ac av vx py li a u) (fun r => r = an_at a i j) := by
  obtain ⟨⟨K, R, C, S, np⟩, M0, P, X, Y⟩ := a
  obtain ⟨⟨su, sa, sb, sc⟩, ⟨sp, ta, tb, tc⟩, ⟨f, g, w⟩, ⟨f2, g2, w2⟩, ⟨pR, pC, pV⟩, ⟨vX, pY, lI⟩⟩ := u
  have hr : st_RC K R C S np M0 P X Y f g w f2 pR pC pV vX pY := hr
  obtain ⟨⟨⟨b1, b2, b3, b4, b5, b6, b7, b8⟩, hM⟩, hsup, hf2, hpe, hps, hX, hY⟩ := id hr
  refine rs_R (cc := cX1_at) (maxL := 3) (rty := .int) (by decide) rfl (Nat.le_of_ble_eq_true rfl) ?_
  intro p e s m args below meth c Q ls hx hb hml hown hts hP hK hl ret
  have f33 := hts (.fieldLink RX1 33 "RowSparse" "support" "LRowSparse$Support;") (by decide +kernel)
  have hin1 : ∀ w ∈ u_ws RX1 TX1 12, w ∈ wsX1_at := by decide +kernel
  have hl : lv_has ls 3 [(0, .ref o), (1, .int i), (2, .int j)] := hl
  have hP : va_P D vwCl [(o, .inr (1, [.int (nI K), .int (nI R), .int (nI C), .ref su, .ref sp, .ref ar, .ref ac, .ref av, .int (nI np), .ref vx, .ref py, .ref li])), (su, .inr (0, [.ref sa, .ref sb, .ref sc])), (sa, .inl (cI, S + 1, .inl f)), (sb, .inl (cI, K, .inl g)), (sc, .inl (cI, K, .inl w)), (sp, .inr (0, [.ref ta, .ref tb, .ref tc])), (ta, .inl (cI, S + 1, .inl f2)), (tb, .inl (cI, K, .inl g2)), (tc, .inl (cI, K, .inl w2)), (ar, .inl (cI, K, .inl pR)), (ac, .inl (cI, K, .inl pC)), (av, .inl (cI, K, .inl pV)), (vx, .inl (cI, S, .inl vX)), (py, .inl (cI, S, .inl pY)), (li, .inl (cI, S, .inl lI))] s.heap := hP
  refine lv_aload_n hx hb dX1_at_0 rfl (lv_at hl 0 rfl) ?_
  refine lv_iload_n hx hb dX1_at_1 rfl (lv_at hl 1 rfl) ?_
  refine lv_iload_n hx hb dX1_at_2 rfl (lv_at hl 2 rfl) ?_
  refine rs_cR (As := [.int i, .int j]) (rest := []) ⟨hx, hb, hml, hown, hts⟩ hl.1 (c_hasPlace l D cI o R C (.int (nI K)) (.ref su) (.ref sp) (.ref ar) (.ref ac) (.ref av) (.int (nI np)) (.ref vx) (.ref py) (.ref li) i j (by omega) (by omega)) (cwV 2 hts gX1_at_X1_hasPlace rfl rfl rfl (by decide +kernel) ⟨Nat.le_of_ble_eq_true rfl, Nat.le_of_ble_eq_true rfl⟩) hK hP [0] rfl rfl rfl rfl rfl (Nat.le_of_ble_eq_true rfl) dX1_at_3 (Nat.le_of_ble_eq_true rfl) (Nat.le_of_ble_eq_true rfl) (fun r hr => ?_)
  subst hr
  refine lv_if_eq (tgt := 21) hx hb dX1_at_6 (by decide) (fun h1 => ?_) (fun h1 => ?_)
  · have h1 := ms_bI_0.mp h1
    refine lv_iconst (v := nI 0) hx hb dX1_at_21 (by decide +kernel) ?_
    exact ret _ _ _ dX1_at_22 (rfl) (an_at_f h1)
  · have h1 := ms_bI_n.mp h1
    have h1 := Bool.and_eq_true_iff.mp h1
    obtain ⟨i0, hi0, rfl⟩ := ms_in_of h1.1 (by omega)
    obtain ⟨j0, hj0, rfl⟩ := ms_in_of h1.2 (by omega)
    obtain ⟨e0, e1, h01, h1k, e2⟩ := ms_Sq hsup hi0
    refine lv_aload_n hx hb dX1_at_9 rfl (lv_at hl 0 rfl) ?_
    refine va_get (D := D) (ci := 1) (v := .ref su) (C := RX1) (T := TX1) (N := 12) hx hb hts hin1 hown hK hP 0 rfl rfl 3 (by decide) f33 (fun _ h9 => h9) rfl dX1_at_10 ?_
    refine lv_iload_n hx hb dX1_at_13 rfl (lv_at hl 1 rfl) ?_
    refine lv_iload_n hx hb dX1_at_14 rfl (lv_at hl 2 rfl) ?_
    refine rs_cR (As := [.int (nI i0), .int (nI j0)]) (rest := []) ⟨hx, hb, hml, hown, hts⟩ hl.1 (c_entry l D cI su sa sb sc (S + 1) K f g w i0 (ms_sc M0 S i0) (ms_sc M0 S (i0 + 1)) (nI j0) (by omega) (by omega) (by omega) e0 e1 h01 h1k) (cwV 2 hts gX1_at_X0_entry rfl rfl rfl (by decide +kernel) ⟨Nat.le_of_ble_eq_true rfl, Nat.le_of_ble_eq_true rfl⟩) hK hP [1, 2, 3, 4] rfl rfl rfl rfl rfl (Nat.le_of_ble_eq_true rfl) dX1_at_15 (Nat.le_of_ble_eq_true rfl) (Nat.le_of_ble_eq_true rfl) (fun r hv => ?_)
    have hv : r = M0 i0 j0 := ms_entry hsup (by omega) hi0 (by omega) hv
    subst hv
    refine lv_goto (tgt := 22) hx hb dX1_at_18 (by decide) ?_
    exact ret _ _ _ dX1_at_22 (rfl) (an_at_t hi0 hj0 (by omega) (by omega))

set_option maxHeartbeats 4000000 in
set_option maxRecDepth 100000 in
theorem c_rowStart (l : Launch) (D : va_G) (cI : ClassId) (o ar ac av vx py li : Nat) (a : st_A) (u : st_C) (hr : st_rc a u) (i : Int32) : MetR l yX1_rowStart wsX1_rowStart rm_1 D [(cI, .int)] [.ref o, .int i] (st_wC cI o ar ac av vx py li a u) (fun r => r = an_rowStart a i) := by
  obtain ⟨⟨K, R, C, S, np⟩, M0, P, X, Y⟩ := a
  obtain ⟨⟨su, sa, sb, sc⟩, ⟨sp, ta, tb, tc⟩, ⟨f, g, w⟩, ⟨f2, g2, w2⟩, ⟨pR, pC, pV⟩, ⟨vX, pY, lI⟩⟩ := u
  have hr : st_RC K R C S np M0 P X Y f g w f2 pR pC pV vX pY := hr
  obtain ⟨⟨⟨b1, b2, b3, b4, b5, b6, b7, b8⟩, hM⟩, hsup, hf2, hpe, hps, hX, hY⟩ := id hr
  refine rs_R (cc := cX1_rowStart) (maxL := 2) (rty := .int) (by decide) rfl (Nat.le_of_ble_eq_true rfl) ?_
  intro p e s m args below meth c Q ls hx hb hml hown hts hP hK hl ret
  have f13 := hts (.fieldLink RX1 13 "RowSparse" "rows" "I") (by decide +kernel)
  have f33 := hts (.fieldLink RX1 33 "RowSparse" "support" "LRowSparse$Support;") (by decide +kernel)
  have hin1 : ∀ w ∈ u_ws RX1 TX1 12, w ∈ wsX1_rowStart := by decide +kernel
  have hl : lv_has ls 2 [(0, .ref o), (1, .int i)] := hl
  have hP : va_P D vwCl [(o, .inr (1, [.int (nI K), .int (nI R), .int (nI C), .ref su, .ref sp, .ref ar, .ref ac, .ref av, .int (nI np), .ref vx, .ref py, .ref li])), (su, .inr (0, [.ref sa, .ref sb, .ref sc])), (sa, .inl (cI, S + 1, .inl f)), (sb, .inl (cI, K, .inl g)), (sc, .inl (cI, K, .inl w)), (sp, .inr (0, [.ref ta, .ref tb, .ref tc])), (ta, .inl (cI, S + 1, .inl f2)), (tb, .inl (cI, K, .inl g2)), (tc, .inl (cI, K, .inl w2)), (ar, .inl (cI, K, .inl pR)), (ac, .inl (cI, K, .inl pC)), (av, .inl (cI, K, .inl pV)), (vx, .inl (cI, S, .inl vX)), (py, .inl (cI, S, .inl pY)), (li, .inl (cI, S, .inl lI))] s.heap := hP
  refine lv_iload_n hx hb dX1_rowStart_0 rfl (lv_at hl 1 rfl) ?_
  refine lv_if_lt (tgt := 23) hx hb dX1_rowStart_1 (by decide) (fun h1 => ?_) (fun h1 => ?_)
  · refine lv_iconst (v := (-1)) hx hb dX1_rowStart_23 (by decide +kernel) ?_
    exact ret _ _ _ dX1_rowStart_24 (rfl) (an_rs_f (ms_in_f1 h1))
  · refine lv_iload_n hx hb dX1_rowStart_4 rfl (lv_at hl 1 rfl) ?_
    refine lv_aload_n hx hb dX1_rowStart_5 rfl (lv_at hl 0 rfl) ?_
    refine va_get (D := D) (ci := 1) (v := .int (nI R)) (C := RX1) (T := TX1) (N := 12) hx hb hts hin1 hown hK hP 0 rfl rfl 1 (by decide) f13 (fun _ h9 => h9) rfl dX1_rowStart_6 ?_
    refine lv_icmp_gt (tgt := 23) hx hb dX1_rowStart_9 (by decide) (fun h2 => ?_) (fun h2 => ?_)
    · refine lv_iconst (v := (-1)) hx hb dX1_rowStart_23 (by decide +kernel) ?_
      exact ret _ _ _ dX1_rowStart_24 (rfl) (an_rs_f (ms_in2_f2 (by omega) h2))
    · obtain ⟨i0, hi0, rfl⟩ := ms_in_of (ms_in2_t (h := R) (by omega) (by rw [ms_nz]; exact h1) h2) (by omega)
      refine lv_aload_n hx hb dX1_rowStart_12 rfl (lv_at hl 0 rfl) ?_
      refine va_get (D := D) (ci := 1) (v := .ref su) (C := RX1) (T := TX1) (N := 12) hx hb hts hin1 hown hK hP 0 rfl rfl 3 (by decide) f33 (fun _ h9 => h9) rfl dX1_rowStart_13 ?_
      refine lv_iload_n hx hb dX1_rowStart_16 rfl (lv_at hl 1 rfl) ?_
      refine rs_cR (As := [.int (nI i0)]) (rest := []) ⟨hx, hb, hml, hown, hts⟩ hl.1 (c_placesAhead l D cI su sa sb sc (S + 1) i0 f (by omega) (by omega)) (cwV 1 hts gX1_rowStart_X0_placesAhead rfl rfl rfl (by decide +kernel) ⟨Nat.le_of_ble_eq_true rfl, Nat.le_of_ble_eq_true rfl⟩) hK hP [1, 2] rfl rfl rfl rfl rfl (Nat.le_of_ble_eq_true rfl) dX1_rowStart_17 (Nat.le_of_ble_eq_true rfl) (Nat.le_of_ble_eq_true rfl) (fun r hv => ?_)
      subst hv
      refine rv_top (hsup.1 i0 (by omega)) ?_
      refine lv_goto (tgt := 24) hx hb dX1_rowStart_20 (by decide) ?_
      exact ret _ _ _ dX1_rowStart_24 (rfl) (an_rs_t hi0 (by omega))

set_option maxHeartbeats 4000000 in
set_option maxRecDepth 100000 in
theorem c_colAt (l : Launch) (D : va_G) (cI : ClassId) (o ar ac av vx py li : Nat) (a : st_A) (u : st_C) (hr : st_rc a u) (i : Int32) : MetR l yX1_colAt wsX1_colAt rm_1 D [(cI, .int)] [.ref o, .int i] (st_wC cI o ar ac av vx py li a u) (fun r => an_colAt a i r) := by
  obtain ⟨⟨K, R, C, S, np⟩, M0, P, X, Y⟩ := a
  obtain ⟨⟨su, sa, sb, sc⟩, ⟨sp, ta, tb, tc⟩, ⟨f, g, w⟩, ⟨f2, g2, w2⟩, ⟨pR, pC, pV⟩, ⟨vX, pY, lI⟩⟩ := u
  have hr : st_RC K R C S np M0 P X Y f g w f2 pR pC pV vX pY := hr
  obtain ⟨⟨⟨b1, b2, b3, b4, b5, b6, b7, b8⟩, hM⟩, hsup, hf2, hpe, hps, hX, hY⟩ := id hr
  refine rs_R (cc := cX1_colAt) (maxL := 2) (rty := .int) (by decide) rfl (Nat.le_of_ble_eq_true rfl) ?_
  intro p e s m args below meth c Q ls hx hb hml hown hts hP hK hl ret
  have f13 := hts (.fieldLink RX1 13 "RowSparse" "rows" "I") (by decide +kernel)
  have f33 := hts (.fieldLink RX1 33 "RowSparse" "support" "LRowSparse$Support;") (by decide +kernel)
  have hin1 : ∀ w ∈ u_ws RX1 TX1 12, w ∈ wsX1_colAt := by decide +kernel
  have hl : lv_has ls 2 [(0, .ref o), (1, .int i)] := hl
  have hP : va_P D vwCl [(o, .inr (1, [.int (nI K), .int (nI R), .int (nI C), .ref su, .ref sp, .ref ar, .ref ac, .ref av, .int (nI np), .ref vx, .ref py, .ref li])), (su, .inr (0, [.ref sa, .ref sb, .ref sc])), (sa, .inl (cI, S + 1, .inl f)), (sb, .inl (cI, K, .inl g)), (sc, .inl (cI, K, .inl w)), (sp, .inr (0, [.ref ta, .ref tb, .ref tc])), (ta, .inl (cI, S + 1, .inl f2)), (tb, .inl (cI, K, .inl g2)), (tc, .inl (cI, K, .inl w2)), (ar, .inl (cI, K, .inl pR)), (ac, .inl (cI, K, .inl pC)), (av, .inl (cI, K, .inl pV)), (vx, .inl (cI, S, .inl vX)), (py, .inl (cI, S, .inl pY)), (li, .inl (cI, S, .inl lI))] s.heap := hP
  refine lv_iload_n hx hb dX1_colAt_0 rfl (lv_at hl 1 rfl) ?_
  refine lv_if_lt (tgt := 30) hx hb dX1_colAt_1 (by decide) (fun h1 => ?_) (fun h1 => ?_)
  · refine lv_iconst (v := (-1)) hx hb dX1_colAt_30 (by decide +kernel) ?_
    exact ret _ _ _ dX1_colAt_31 (rfl) (Or.inr ⟨rfl, Or.inl h1⟩)
  · refine lv_iload_n hx hb dX1_colAt_4 rfl (lv_at hl 1 rfl) ?_
    refine lv_aload_n hx hb dX1_colAt_5 rfl (lv_at hl 0 rfl) ?_
    refine va_get (D := D) (ci := 1) (v := .ref su) (C := RX1) (T := TX1) (N := 12) hx hb hts hin1 hown hK hP 0 rfl rfl 3 (by decide) f33 (fun _ h9 => h9) rfl dX1_colAt_6 ?_
    refine lv_aload_n hx hb dX1_colAt_9 rfl (lv_at hl 0 rfl) ?_
    refine va_get (D := D) (ci := 1) (v := .int (nI R)) (C := RX1) (T := TX1) (N := 12) hx hb hts hin1 hown hK hP 0 rfl rfl 1 (by decide) f13 (fun _ h9 => h9) rfl dX1_colAt_10 ?_
    refine rs_cR (As := [.int (nI R)]) (rest := [.int i]) ⟨hx, hb, hml, hown, hts⟩ hl.1 (c_placesAhead l D cI su sa sb sc (S + 1) R f (by omega) (by omega)) (cwV 1 hts gX1_colAt_X0_placesAhead rfl rfl rfl (by decide +kernel) ⟨Nat.le_of_ble_eq_true rfl, Nat.le_of_ble_eq_true rfl⟩) hK hP [1, 2] rfl rfl rfl rfl rfl (Nat.le_of_ble_eq_true rfl) dX1_colAt_13 (Nat.le_of_ble_eq_true rfl) (Nat.le_of_ble_eq_true rfl) (fun r hv => ?_)
    subst hv
    refine rv_top (hsup.1 R (Nat.le_refl _)) ?_
    refine lv_icmp_ge (tgt := 30) hx hb dX1_colAt_16 (by decide) (fun h2 => ?_) (fun h2 => ?_)
    · refine lv_iconst (v := (-1)) hx hb dX1_colAt_30 (by decide +kernel) ?_
      exact ret _ _ _ dX1_colAt_31 (rfl) (Or.inr ⟨rfl, Or.inr h2⟩)
    · have hsk := hsup.2.1
      obtain ⟨i0, hi0, rfl⟩ := ms_in_of (ms_in_t (N := ms_sc M0 S R) (by omega) h1 h2) (by omega)
      refine lv_aload_n hx hb dX1_colAt_19 rfl (lv_at hl 0 rfl) ?_
      refine va_get (D := D) (ci := 1) (v := .ref su) (C := RX1) (T := TX1) (N := 12) hx hb hts hin1 hown hK hP 0 rfl rfl 3 (by decide) f33 (fun _ h9 => h9) rfl dX1_colAt_20 ?_
      refine lv_iload_n hx hb dX1_colAt_23 rfl (lv_at hl 1 rfl) ?_
      refine rs_cR (As := [.int (nI i0)]) (rest := []) ⟨hx, hb, hml, hown, hts⟩ hl.1 (c_column l D cI su sa sb sc K i0 g (by omega) (by omega)) (cwV 1 hts gX1_colAt_X0_column rfl rfl rfl (by decide +kernel) ⟨Nat.le_of_ble_eq_true rfl, Nat.le_of_ble_eq_true rfl⟩) hK hP [1, 3] rfl rfl rfl rfl rfl (Nat.le_of_ble_eq_true rfl) dX1_colAt_24 (Nat.le_of_ble_eq_true rfl) (Nat.le_of_ble_eq_true rfl) (fun r hv => ?_)
      subst hv
      refine lv_goto (tgt := 31) hx hb dX1_colAt_27 (by decide) ?_
      exact ret _ _ _ dX1_colAt_31 (rfl) (an_colAt_g hsup hi0)

set_option maxHeartbeats 4000000 in
set_option maxRecDepth 100000 in
theorem c_y (l : Launch) (D : va_G) (cI : ClassId) (o ar ac av vx py li : Nat) (a : st_A) (u : st_C) (hr : st_rc a u) (i : Int32) : MetR l yX1_y wsX1_y rm_1 D [(cI, .int)] [.ref o, .int i] (st_wC cI o ar ac av vx py li a u) (fun r => r = an_y a i) := by
  obtain ⟨⟨K, R, C, S, np⟩, M0, P, X, Y⟩ := a
  obtain ⟨⟨su, sa, sb, sc⟩, ⟨sp, ta, tb, tc⟩, ⟨f, g, w⟩, ⟨f2, g2, w2⟩, ⟨pR, pC, pV⟩, ⟨vX, pY, lI⟩⟩ := u
  have hr : st_RC K R C S np M0 P X Y f g w f2 pR pC pV vX pY := hr
  obtain ⟨⟨⟨b1, b2, b3, b4, b5, b6, b7, b8⟩, hM⟩, hsup, hf2, hpe, hps, hX, hY⟩ := id hr
  refine rs_R (cc := cX1_y) (maxL := 2) (rty := .int) (by decide) rfl (Nat.le_of_ble_eq_true rfl) ?_
  intro p e s m args below meth c Q ls hx hb hml hown hts hP hK hl ret
  have f13 := hts (.fieldLink RX1 13 "RowSparse" "rows" "I") (by decide +kernel)
  have f56 := hts (.fieldLink RX1 56 "RowSparse" "product" "[I") (by decide +kernel)
  have hin1 : ∀ w ∈ u_ws RX1 TX1 12, w ∈ wsX1_y := by decide +kernel
  have hl : lv_has ls 2 [(0, .ref o), (1, .int i)] := hl
  have hP : va_P D vwCl [(o, .inr (1, [.int (nI K), .int (nI R), .int (nI C), .ref su, .ref sp, .ref ar, .ref ac, .ref av, .int (nI np), .ref vx, .ref py, .ref li])), (su, .inr (0, [.ref sa, .ref sb, .ref sc])), (sa, .inl (cI, S + 1, .inl f)), (sb, .inl (cI, K, .inl g)), (sc, .inl (cI, K, .inl w)), (sp, .inr (0, [.ref ta, .ref tb, .ref tc])), (ta, .inl (cI, S + 1, .inl f2)), (tb, .inl (cI, K, .inl g2)), (tc, .inl (cI, K, .inl w2)), (ar, .inl (cI, K, .inl pR)), (ac, .inl (cI, K, .inl pC)), (av, .inl (cI, K, .inl pV)), (vx, .inl (cI, S, .inl vX)), (py, .inl (cI, S, .inl pY)), (li, .inl (cI, S, .inl lI))] s.heap := hP
  refine lv_iload_n hx hb dX1_y_0 rfl (lv_at hl 1 rfl) ?_
  refine lv_aload_n hx hb dX1_y_1 rfl (lv_at hl 0 rfl) ?_
  refine va_get (D := D) (ci := 1) (v := .int (nI R)) (C := RX1) (T := TX1) (N := 12) hx hb hts hin1 hown hK hP 0 rfl rfl 1 (by decide) f13 (fun _ h9 => h9) rfl dX1_y_2 ?_
  refine rs_cRS (As := [.int i, .int (nI R)]) (rest := []) ⟨hx, hb, hml, hown, hts⟩ hl.1 (c_isWithin l D cI i R (by omega)) (va_cwS 2 hts gX1_y_X1_isWithin rfl rfl rfl (by decide +kernel) ⟨Nat.le_of_ble_eq_true rfl, Nat.le_of_ble_eq_true rfl⟩) hK hP [] rfl rfl rfl (Nat.le_of_ble_eq_true rfl) dX1_y_5 (Nat.le_of_ble_eq_true rfl) (Nat.le_of_ble_eq_true rfl) (fun r hv => ?_)
  subst hv
  refine lv_if_eq (tgt := 20) hx hb dX1_y_8 (by decide) (fun h1 => ?_) (fun h1 => ?_)
  · have h1 := ms_bI_0.mp h1
    refine lv_iconst (v := nI 0) hx hb dX1_y_20 (by decide +kernel) ?_
    exact ret _ _ _ dX1_y_21 (rfl) (an_y_f h1)
  · have h1 := ms_bI_n.mp h1
    obtain ⟨i0, hi0, rfl⟩ := ms_in_of h1 (by omega)
    refine lv_aload_n hx hb dX1_y_11 rfl (lv_at hl 0 rfl) ?_
    refine va_get (D := D) (ci := 1) (v := .ref py) (C := RX1) (T := TX1) (N := 12) hx hb hts hin1 hown hK hP 0 rfl rfl 10 (by decide) f56 (fun _ h9 => h9) rfl dX1_y_12 ?_
    refine lv_iload_n hx hb dX1_y_15 rfl (lv_at hl 1 rfl) ?_
    refine rv_iald hx hb hK hP 13 rfl rfl (by omega) (by omega) dX1_y_16 ?_
    refine rv_top (hY i0 hi0) ?_
    refine lv_goto (tgt := 21) hx hb dX1_y_17 (by decide) ?_
    exact ret _ _ _ dX1_y_21 (rfl) (an_y_t hi0 (by omega))

set_option maxHeartbeats 4000000 in
set_option maxRecDepth 100000 in
theorem c_count (l : Launch) (D : va_G) (cI : ClassId) (o ar ac av vx py li : Nat) (a : st_A) (u : st_C) (hr : st_rc a u) (i : Int32) : MetR l yX1_count wsX1_count rm_0 D [(cI, .int)] [.ref o, .int i] (st_wC cI o ar ac av vx py li a u) (fun r => r = an_count a i) := by
  obtain ⟨⟨K, R, C, S, np⟩, M0, P, X, Y⟩ := a
  obtain ⟨⟨su, sa, sb, sc⟩, ⟨sp, ta, tb, tc⟩, ⟨f, g, w⟩, ⟨f2, g2, w2⟩, ⟨pR, pC, pV⟩, ⟨vX, pY, lI⟩⟩ := u
  have hr : st_RC K R C S np M0 P X Y f g w f2 pR pC pV vX pY := hr
  obtain ⟨⟨⟨b1, b2, b3, b4, b5, b6, b7, b8⟩, hM⟩, hsup, hf2, hpe, hps, hX, hY⟩ := id hr
  refine rs_R (cc := cX1_count) (maxL := 2) (rty := .int) (by decide) rfl (Nat.le_of_ble_eq_true rfl) ?_
  intro p e s m args below meth c Q ls hx hb hml hown hts hP hK hl ret
  have f13 := hts (.fieldLink RX1 13 "RowSparse" "rows" "I") (by decide +kernel)
  have f17 := hts (.fieldLink RX1 17 "RowSparse" "cols" "I") (by decide +kernel)
  have f20 := hts (.fieldLink RX1 20 "RowSparse" "cap" "I") (by decide +kernel)
  have f50 := hts (.fieldLink RX1 50 "RowSparse" "pending" "I") (by decide +kernel)
  have hin1 : ∀ w ∈ u_ws RX1 TX1 12, w ∈ wsX1_count := by decide +kernel
  have hl : lv_has ls 2 [(0, .ref o), (1, .int i)] := hl
  have hP : va_P D vwCl [(o, .inr (1, [.int (nI K), .int (nI R), .int (nI C), .ref su, .ref sp, .ref ar, .ref ac, .ref av, .int (nI np), .ref vx, .ref py, .ref li])), (su, .inr (0, [.ref sa, .ref sb, .ref sc])), (sa, .inl (cI, S + 1, .inl f)), (sb, .inl (cI, K, .inl g)), (sc, .inl (cI, K, .inl w)), (sp, .inr (0, [.ref ta, .ref tb, .ref tc])), (ta, .inl (cI, S + 1, .inl f2)), (tb, .inl (cI, K, .inl g2)), (tc, .inl (cI, K, .inl w2)), (ar, .inl (cI, K, .inl pR)), (ac, .inl (cI, K, .inl pC)), (av, .inl (cI, K, .inl pV)), (vx, .inl (cI, S, .inl vX)), (py, .inl (cI, S, .inl pY)), (li, .inl (cI, S, .inl lI))] s.heap := hP
  refine lv_iload_n hx hb dX1_count_0 rfl (lv_at hl 1 rfl) ?_
  by_cases w0 : i = 0
  · subst w0
    refine lv_tableIn (tgt := 32) hx hb dX1_count_1 (by decide) (by decide) rfl (by decide) ?_
    refine lv_aload_n hx hb dX1_count_32 rfl (lv_at hl 0 rfl) ?_
    refine va_get (D := D) (ci := 1) (v := .int (nI R)) (C := RX1) (T := TX1) (N := 12) hx hb hts hin1 hown hK hP 0 rfl rfl 1 (by decide) f13 (fun _ h9 => h9) rfl dX1_count_33 ?_
    exact ret _ _ _ dX1_count_36 (rfl) (rfl)
  by_cases w1 : i = 1
  · subst w1
    refine lv_tableIn (tgt := 37) hx hb dX1_count_1 (by decide) (by decide) rfl (by decide) ?_
    refine lv_aload_n hx hb dX1_count_37 rfl (lv_at hl 0 rfl) ?_
    refine va_get (D := D) (ci := 1) (v := .int (nI C)) (C := RX1) (T := TX1) (N := 12) hx hb hts hin1 hown hK hP 0 rfl rfl 2 (by decide) f17 (fun _ h9 => h9) rfl dX1_count_38 ?_
    exact ret _ _ _ dX1_count_41 (rfl) (rfl)
  by_cases w2 : i = 2
  · subst w2
    refine lv_tableIn (tgt := 42) hx hb dX1_count_1 (by decide) (by decide) rfl (by decide) ?_
    refine lv_aload_n hx hb dX1_count_42 rfl (lv_at hl 0 rfl) ?_
    refine va_get (D := D) (ci := 1) (v := .int (nI K)) (C := RX1) (T := TX1) (N := 12) hx hb hts hin1 hown hK hP 0 rfl rfl 0 (by decide) f20 (fun _ h9 => h9) rfl dX1_count_43 ?_
    exact ret _ _ _ dX1_count_46 (rfl) (rfl)
  by_cases w3 : i = 3
  · subst w3
    refine lv_tableIn (tgt := 47) hx hb dX1_count_1 (by decide) (by decide) rfl (by decide) ?_
    refine lv_aload_n hx hb dX1_count_47 rfl (lv_at hl 0 rfl) ?_
    refine va_get (D := D) (ci := 1) (v := .int (nI np)) (C := RX1) (T := TX1) (N := 12) hx hb hts hin1 hown hK hP 0 rfl rfl 8 (by decide) f50 (fun _ h9 => h9) rfl dX1_count_48 ?_
    exact ret _ _ _ dX1_count_51 (rfl) (rfl)
  refine lv_tableOut (tgt := 52) hx hb dX1_count_1 (ms_out3 w0 w1 w2 w3) (by decide) ?_
  refine lv_iconst (v := (-1)) hx hb dX1_count_52 (by decide +kernel) ?_
  exact ret _ _ _ dX1_count_53 (rfl) (((if_neg w0).trans ((if_neg w1).trans ((if_neg w2).trans (if_neg w3)))).symm)

set_option maxHeartbeats 4000000 in
set_option maxRecDepth 100000 in
theorem c_add (l : Launch) (D : va_G) (cI : ClassId) (o ar ac av vx py li : Nat) (a : st_A) (u : st_C) (hr : st_rc a u) (i j v : Int32) : MetI l yX1_add wsX1_add rm_2 D [(cI, .int)] [.ref o, .int i, .int j, .int v] (st_wC cI o ar ac av vx py li a u) (fun (r : Int32) (x : st_A × st_C) => r = (an_add a i j).1 ∧ x.1 = up_add a i j v ∧ st_rc x.1 x.2) (fun x => st_wC cI o ar ac av vx py li x.1 x.2) 0 0 := by
  obtain ⟨⟨K, R, C, S, np⟩, M0, P, X, Y⟩ := a
  obtain ⟨⟨su, sa, sb, sc⟩, ⟨sp, ta, tb, tc⟩, ⟨f, g, w⟩, ⟨f2, g2, w2⟩, ⟨pR, pC, pV⟩, ⟨vX, pY, lI⟩⟩ := u
  have hr : st_RC K R C S np M0 P X Y f g w f2 pR pC pV vX pY := hr
  obtain ⟨⟨⟨b1, b2, b3, b4, b5, b6, b7, b8⟩, hM⟩, hsup, hf2, hpe, hps, hX, hY⟩ := id hr
  refine rs_I (cc := cX1_add) (maxL := 4) (rty := .boolean) (by decide) rfl (Nat.le_of_ble_eq_true rfl) ?_
  intro p e s m args below meth c Q A ls hx hb hml hown hts hP hK hD hS hA hl ret
  have f20 := hts (.fieldLink RX1 20 "RowSparse" "cap" "I") (by decide +kernel)
  have f40 := hts (.fieldLink RX1 40 "RowSparse" "pendingRows" "[I") (by decide +kernel)
  have f44 := hts (.fieldLink RX1 44 "RowSparse" "pendingCols" "[I") (by decide +kernel)
  have f47 := hts (.fieldLink RX1 47 "RowSparse" "pendingValues" "[I") (by decide +kernel)
  have f50 := hts (.fieldLink RX1 50 "RowSparse" "pending" "I") (by decide +kernel)
  have hin1 : ∀ w ∈ u_ws RX1 TX1 12, w ∈ wsX1_add := by decide +kernel
  have hl : lv_has ls 4 [(0, .ref o), (1, .int i), (2, .int j), (3, .int v)] := hl
  have hP : va_P D vwCl [(o, .inr (1, [.int (nI K), .int (nI R), .int (nI C), .ref su, .ref sp, .ref ar, .ref ac, .ref av, .int (nI np), .ref vx, .ref py, .ref li])), (su, .inr (0, [.ref sa, .ref sb, .ref sc])), (sa, .inl (cI, S + 1, .inl f)), (sb, .inl (cI, K, .inl g)), (sc, .inl (cI, K, .inl w)), (sp, .inr (0, [.ref ta, .ref tb, .ref tc])), (ta, .inl (cI, S + 1, .inl f2)), (tb, .inl (cI, K, .inl g2)), (tc, .inl (cI, K, .inl w2)), (ar, .inl (cI, K, .inl pR)), (ac, .inl (cI, K, .inl pC)), (av, .inl (cI, K, .inl pV)), (vx, .inl (cI, S, .inl vX)), (py, .inl (cI, S, .inl pY)), (li, .inl (cI, S, .inl lI))] s.heap := hP
  have hD : va_D A [(o, .inr (1, [.int (nI K), .int (nI R), .int (nI C), .ref su, .ref sp, .ref ar, .ref ac, .ref av, .int (nI np), .ref vx, .ref py, .ref li])), (su, .inr (0, [.ref sa, .ref sb, .ref sc])), (sa, .inl (cI, S + 1, .inl f)), (sb, .inl (cI, K, .inl g)), (sc, .inl (cI, K, .inl w)), (sp, .inr (0, [.ref ta, .ref tb, .ref tc])), (ta, .inl (cI, S + 1, .inl f2)), (tb, .inl (cI, K, .inl g2)), (tc, .inl (cI, K, .inl w2)), (ar, .inl (cI, K, .inl pR)), (ac, .inl (cI, K, .inl pC)), (av, .inl (cI, K, .inl pV)), (vx, .inl (cI, S, .inl vX)), (py, .inl (cI, S, .inl pY)), (li, .inl (cI, S, .inl lI))] := hD
  refine lv_aload_n hx hb dX1_add_0 rfl (lv_at hl 0 rfl) ?_
  refine lv_iload_n hx hb dX1_add_1 rfl (lv_at hl 1 rfl) ?_
  refine lv_iload_n hx hb dX1_add_2 rfl (lv_at hl 2 rfl) ?_
  refine rs_cR (As := [.int i, .int j]) (rest := []) ⟨hx, hb, hml, hown, hts⟩ hl.1 (c_hasPlace l D cI o R C (.int (nI K)) (.ref su) (.ref sp) (.ref ar) (.ref ac) (.ref av) (.int (nI np)) (.ref vx) (.ref py) (.ref li) i j (by omega) (by omega)) (cwV 2 hts gX1_add_X1_hasPlace rfl rfl rfl (by decide +kernel) ⟨Nat.le_of_ble_eq_true rfl, Nat.le_of_ble_eq_true rfl⟩) hK hP [0] rfl rfl rfl rfl rfl (Nat.le_of_ble_eq_true rfl) dX1_add_3 (Nat.le_of_ble_eq_true rfl) (Nat.le_of_ble_eq_true rfl) (fun r hv => ?_)
  subst hv
  refine lv_if_eq (tgt := 20) hx hb dX1_add_6 (by decide) (fun h1 => ?_) (fun h1 => ?_)
  · have h1 := ms_bI_0.mp h1
    refine lv_iconst (v := nI 0) hx hb dX1_add_20 (by decide +kernel) ?_
    exact ret _ _ _ _ _ (((K, R, C, S, np), M0, P, X, Y), ((su, sa, sb, sc), (sp, ta, tb, tc), (f, g, w), (f2, g2, w2), (pR, pC, pV), (vX, pY, lI))) dX1_add_21 (rfl) (⟨(an_add_f (v := v) (an_add_c1 h1)).1, (an_add_f (an_add_c1 h1)).2.symm, hr⟩) (hP.sub [0, 1, 2, 3, 4, 5, 6, 7, 8, 9, 10, 11, 12, 13, 14] rfl) (hD.sub [0, 1, 2, 3, 4, 5, 6, 7, 8, 9, 10, 11, 12, 13, 14] (by decide) rfl) hS
  · have h1 := ms_bI_n.mp h1
    refine lv_aload_n hx hb dX1_add_9 rfl (lv_at hl 0 rfl) ?_
    refine va_get (D := D) (ci := 1) (v := .int (nI np)) (C := RX1) (T := TX1) (N := 12) hx hb hts hin1 hown hK hP 0 rfl rfl 8 (by decide) f50 (fun _ h9 => h9) rfl dX1_add_10 ?_
    refine lv_aload_n hx hb dX1_add_13 rfl (lv_at hl 0 rfl) ?_
    refine va_get (D := D) (ci := 1) (v := .int (nI K)) (C := RX1) (T := TX1) (N := 12) hx hb hts hin1 hown hK hP 0 rfl rfl 0 (by decide) f20 (fun _ h9 => h9) rfl dX1_add_14 ?_
    refine rv_lt (tgt := 22) hx hb dX1_add_17 (by decide) (by omega) (by omega) (fun h2 => ?_) (fun h2 => ?_)
    · have h1 := Bool.and_eq_true_iff.mp h1
      obtain ⟨i0, hi0, rfl⟩ := ms_in_of h1.1 (by omega)
      obtain ⟨j0, hj0, rfl⟩ := ms_in_of h1.2 (by omega)
      have h9 := an_add_c3 (K := K) (np := np) hi0 hj0 (by omega) (by omega) h2
      refine lv_aload_n hx hb dX1_add_22 rfl (lv_at hl 0 rfl) ?_
      refine va_get (D := D) (ci := 1) (v := .ref ar) (C := RX1) (T := TX1) (N := 12) hx hb hts hin1 hown hK hP 0 rfl rfl 5 (by decide) f40 (fun _ h9 => h9) rfl dX1_add_23 ?_
      refine lv_aload_n hx hb dX1_add_26 rfl (lv_at hl 0 rfl) ?_
      refine va_get (D := D) (ci := 1) (v := .int (nI np)) (C := RX1) (T := TX1) (N := 12) hx hb hts hin1 hown hK hP 0 rfl rfl 8 (by decide) f50 (fun _ h9 => h9) rfl dX1_add_27 ?_
      refine lv_iload_n hx hb dX1_add_30 rfl (lv_at hl 1 rfl) ?_
      refine rv_iast hx hb hK hP hD hS 9 rfl rfl (by omega) (by omega) dX1_add_31 (fun H locs hP hD hS => ?_)
      have hP : va_P D vwCl [(o, .inr (1, [.int (nI K), .int (nI R), .int (nI C), .ref su, .ref sp, .ref ar, .ref ac, .ref av, .int (nI np), .ref vx, .ref py, .ref li])), (su, .inr (0, [.ref sa, .ref sb, .ref sc])), (sa, .inl (cI, S + 1, .inl f)), (sb, .inl (cI, K, .inl g)), (sc, .inl (cI, K, .inl w)), (sp, .inr (0, [.ref ta, .ref tb, .ref tc])), (ta, .inl (cI, S + 1, .inl f2)), (tb, .inl (cI, K, .inl g2)), (tc, .inl (cI, K, .inl w2)), (ar, .inl (cI, K, .inl (upd pR np (nI i0)))), (ac, .inl (cI, K, .inl pC)), (av, .inl (cI, K, .inl pV)), (vx, .inl (cI, S, .inl vX)), (py, .inl (cI, S, .inl pY)), (li, .inl (cI, S, .inl lI))] H := hP
      have hD : va_D A [(o, .inr (1, [.int (nI K), .int (nI R), .int (nI C), .ref su, .ref sp, .ref ar, .ref ac, .ref av, .int (nI np), .ref vx, .ref py, .ref li])), (su, .inr (0, [.ref sa, .ref sb, .ref sc])), (sa, .inl (cI, S + 1, .inl f)), (sb, .inl (cI, K, .inl g)), (sc, .inl (cI, K, .inl w)), (sp, .inr (0, [.ref ta, .ref tb, .ref tc])), (ta, .inl (cI, S + 1, .inl f2)), (tb, .inl (cI, K, .inl g2)), (tc, .inl (cI, K, .inl w2)), (ar, .inl (cI, K, .inl (upd pR np (nI i0)))), (ac, .inl (cI, K, .inl pC)), (av, .inl (cI, K, .inl pV)), (vx, .inl (cI, S, .inl vX)), (py, .inl (cI, S, .inl pY)), (li, .inl (cI, S, .inl lI))] := hD
      refine lv_aload_n hx hb dX1_add_32 rfl (lv_at hl 0 rfl) ?_
      refine va_get (D := D) (ci := 1) (v := .ref ac) (C := RX1) (T := TX1) (N := 12) hx hb hts hin1 hown hK hP 0 rfl rfl 6 (by decide) f44 (fun _ h9 => h9) rfl dX1_add_33 ?_
      refine lv_aload_n hx hb dX1_add_36 rfl (lv_at hl 0 rfl) ?_
      refine va_get (D := D) (ci := 1) (v := .int (nI np)) (C := RX1) (T := TX1) (N := 12) hx hb hts hin1 hown hK hP 0 rfl rfl 8 (by decide) f50 (fun _ h9 => h9) rfl dX1_add_37 ?_
      refine lv_iload_n hx hb dX1_add_40 rfl (lv_at hl 2 rfl) ?_
      refine rv_iast hx hb hK hP hD hS 10 rfl rfl (by omega) (by omega) dX1_add_41 (fun H locs hP hD hS => ?_)
      have hP : va_P D vwCl [(o, .inr (1, [.int (nI K), .int (nI R), .int (nI C), .ref su, .ref sp, .ref ar, .ref ac, .ref av, .int (nI np), .ref vx, .ref py, .ref li])), (su, .inr (0, [.ref sa, .ref sb, .ref sc])), (sa, .inl (cI, S + 1, .inl f)), (sb, .inl (cI, K, .inl g)), (sc, .inl (cI, K, .inl w)), (sp, .inr (0, [.ref ta, .ref tb, .ref tc])), (ta, .inl (cI, S + 1, .inl f2)), (tb, .inl (cI, K, .inl g2)), (tc, .inl (cI, K, .inl w2)), (ar, .inl (cI, K, .inl (upd pR np (nI i0)))), (ac, .inl (cI, K, .inl (upd pC np (nI j0)))), (av, .inl (cI, K, .inl pV)), (vx, .inl (cI, S, .inl vX)), (py, .inl (cI, S, .inl pY)), (li, .inl (cI, S, .inl lI))] H := hP
      have hD : va_D A [(o, .inr (1, [.int (nI K), .int (nI R), .int (nI C), .ref su, .ref sp, .ref ar, .ref ac, .ref av, .int (nI np), .ref vx, .ref py, .ref li])), (su, .inr (0, [.ref sa, .ref sb, .ref sc])), (sa, .inl (cI, S + 1, .inl f)), (sb, .inl (cI, K, .inl g)), (sc, .inl (cI, K, .inl w)), (sp, .inr (0, [.ref ta, .ref tb, .ref tc])), (ta, .inl (cI, S + 1, .inl f2)), (tb, .inl (cI, K, .inl g2)), (tc, .inl (cI, K, .inl w2)), (ar, .inl (cI, K, .inl (upd pR np (nI i0)))), (ac, .inl (cI, K, .inl (upd pC np (nI j0)))), (av, .inl (cI, K, .inl pV)), (vx, .inl (cI, S, .inl vX)), (py, .inl (cI, S, .inl pY)), (li, .inl (cI, S, .inl lI))] := hD
      refine lv_aload_n hx hb dX1_add_42 rfl (lv_at hl 0 rfl) ?_
      refine va_get (D := D) (ci := 1) (v := .ref av) (C := RX1) (T := TX1) (N := 12) hx hb hts hin1 hown hK hP 0 rfl rfl 7 (by decide) f47 (fun _ h9 => h9) rfl dX1_add_43 ?_
      refine lv_aload_n hx hb dX1_add_46 rfl (lv_at hl 0 rfl) ?_
      refine va_get (D := D) (ci := 1) (v := .int (nI np)) (C := RX1) (T := TX1) (N := 12) hx hb hts hin1 hown hK hP 0 rfl rfl 8 (by decide) f50 (fun _ h9 => h9) rfl dX1_add_47 ?_
      refine lv_iload_n hx hb dX1_add_50 rfl (lv_at hl 3 rfl) ?_
      refine rv_iast hx hb hK hP hD hS 11 rfl rfl (by omega) (by omega) dX1_add_51 (fun H locs hP hD hS => ?_)
      have hP : va_P D vwCl [(o, .inr (1, [.int (nI K), .int (nI R), .int (nI C), .ref su, .ref sp, .ref ar, .ref ac, .ref av, .int (nI np), .ref vx, .ref py, .ref li])), (su, .inr (0, [.ref sa, .ref sb, .ref sc])), (sa, .inl (cI, S + 1, .inl f)), (sb, .inl (cI, K, .inl g)), (sc, .inl (cI, K, .inl w)), (sp, .inr (0, [.ref ta, .ref tb, .ref tc])), (ta, .inl (cI, S + 1, .inl f2)), (tb, .inl (cI, K, .inl g2)), (tc, .inl (cI, K, .inl w2)), (ar, .inl (cI, K, .inl (upd pR np (nI i0)))), (ac, .inl (cI, K, .inl (upd pC np (nI j0)))), (av, .inl (cI, K, .inl (upd pV np v))), (vx, .inl (cI, S, .inl vX)), (py, .inl (cI, S, .inl pY)), (li, .inl (cI, S, .inl lI))] H := hP
      have hD : va_D A [(o, .inr (1, [.int (nI K), .int (nI R), .int (nI C), .ref su, .ref sp, .ref ar, .ref ac, .ref av, .int (nI np), .ref vx, .ref py, .ref li])), (su, .inr (0, [.ref sa, .ref sb, .ref sc])), (sa, .inl (cI, S + 1, .inl f)), (sb, .inl (cI, K, .inl g)), (sc, .inl (cI, K, .inl w)), (sp, .inr (0, [.ref ta, .ref tb, .ref tc])), (ta, .inl (cI, S + 1, .inl f2)), (tb, .inl (cI, K, .inl g2)), (tc, .inl (cI, K, .inl w2)), (ar, .inl (cI, K, .inl (upd pR np (nI i0)))), (ac, .inl (cI, K, .inl (upd pC np (nI j0)))), (av, .inl (cI, K, .inl (upd pV np v))), (vx, .inl (cI, S, .inl vX)), (py, .inl (cI, S, .inl pY)), (li, .inl (cI, S, .inl lI))] := hD
      refine lv_aload_n hx hb dX1_add_52 rfl (lv_at hl 0 rfl) ?_
      refine lv_dup hx hb dX1_add_53 rfl ?_
      refine va_get (D := D) (ci := 1) (v := .int (nI np)) (C := RX1) (T := TX1) (N := 12) hx hb hts hin1 hown hK hP 0 rfl rfl 8 (by decide) f50 (fun _ h9 => h9) rfl dX1_add_54 ?_
      refine lv_iconst (v := nI 1) hx hb dX1_add_57 (by decide +kernel) ?_
      refine rv_iadd hx hb dX1_add_58 ?_
      refine va_put (D := D) (ci := 1) (v := .int (nI (np + 1))) (ty := .int) (C := RX1) (T := TX1) (N := 12) hx hb hts hin1 tyX1 tyX1_ok nmX1 hown hK hP hD hS 0 rfl rfl 8 (by decide) f50 (fun _ h9 => h9) rfl (by decide +kernel) rfl rfl (Nat.le_of_ble_eq_true rfl) dX1_add_59 (fun H locs hP hD hS => ?_)
      have hP : va_P D vwCl [(o, .inr (1, [.int (nI K), .int (nI R), .int (nI C), .ref su, .ref sp, .ref ar, .ref ac, .ref av, .int (nI (np + 1)), .ref vx, .ref py, .ref li])), (su, .inr (0, [.ref sa, .ref sb, .ref sc])), (sa, .inl (cI, S + 1, .inl f)), (sb, .inl (cI, K, .inl g)), (sc, .inl (cI, K, .inl w)), (sp, .inr (0, [.ref ta, .ref tb, .ref tc])), (ta, .inl (cI, S + 1, .inl f2)), (tb, .inl (cI, K, .inl g2)), (tc, .inl (cI, K, .inl w2)), (ar, .inl (cI, K, .inl (upd pR np (nI i0)))), (ac, .inl (cI, K, .inl (upd pC np (nI j0)))), (av, .inl (cI, K, .inl (upd pV np v))), (vx, .inl (cI, S, .inl vX)), (py, .inl (cI, S, .inl pY)), (li, .inl (cI, S, .inl lI))] H := hP
      have hD : va_D A [(o, .inr (1, [.int (nI K), .int (nI R), .int (nI C), .ref su, .ref sp, .ref ar, .ref ac, .ref av, .int (nI (np + 1)), .ref vx, .ref py, .ref li])), (su, .inr (0, [.ref sa, .ref sb, .ref sc])), (sa, .inl (cI, S + 1, .inl f)), (sb, .inl (cI, K, .inl g)), (sc, .inl (cI, K, .inl w)), (sp, .inr (0, [.ref ta, .ref tb, .ref tc])), (ta, .inl (cI, S + 1, .inl f2)), (tb, .inl (cI, K, .inl g2)), (tc, .inl (cI, K, .inl w2)), (ar, .inl (cI, K, .inl (upd pR np (nI i0)))), (ac, .inl (cI, K, .inl (upd pC np (nI j0)))), (av, .inl (cI, K, .inl (upd pV np v))), (vx, .inl (cI, S, .inl vX)), (py, .inl (cI, S, .inl pY)), (li, .inl (cI, S, .inl lI))] := hD
      refine lv_iconst (v := nI 1) hx hb dX1_add_62 (by decide +kernel) ?_
      exact ret _ _ _ _ _ (((K, R, C, S, np + 1), M0, (fun a b => if nI a = nI i0 ∧ nI b = nI j0 then P a b + v else P a b), X, Y), ((su, sa, sb, sc), (sp, ta, tb, tc), (f, g, w), (f2, g2, w2), (upd pR np (nI i0), upd pC np (nI j0), upd pV np v), (vX, pY, lI))) dX1_add_63 (rfl) (⟨(an_add_t (v := v) h9).1, (an_add_t h9).2.symm, st_adds hr hi0 hj0 h2⟩) (hP.sub [0, 1, 2, 3, 4, 5, 6, 7, 8, 9, 10, 11, 12, 13, 14] rfl) (hD.sub [0, 1, 2, 3, 4, 5, 6, 7, 8, 9, 10, 11, 12, 13, 14] (by decide) rfl) hS
    · refine lv_iconst (v := nI 0) hx hb dX1_add_20 (by decide +kernel) ?_
      exact ret _ _ _ _ _ (((K, R, C, S, np), M0, P, X, Y), ((su, sa, sb, sc), (sp, ta, tb, tc), (f, g, w), (f2, g2, w2), (pR, pC, pV), (vX, pY, lI))) dX1_add_21 (rfl) (⟨(an_add_f (v := v) (an_add_c2 h2)).1, (an_add_f (an_add_c2 h2)).2.symm, hr⟩) (hP.sub [0, 1, 2, 3, 4, 5, 6, 7, 8, 9, 10, 11, 12, 13, 14] rfl) (hD.sub [0, 1, 2, 3, 4, 5, 6, 7, 8, 9, 10, 11, 12, 13, 14] (by decide) rfl) hS

set_option maxHeartbeats 4000000 in
set_option maxRecDepth 100000 in
theorem c_setX (l : Launch) (D : va_G) (cI : ClassId) (o ar ac av vx py li : Nat) (a : st_A) (u : st_C) (hr : st_rc a u) (j v : Int32) : MetI l yX1_setX wsX1_setX rm_1 D [(cI, .int)] [.ref o, .int j, .int v] (st_wC cI o ar ac av vx py li a u) (fun (r : Int32) (x : st_A × st_C) => r = an_setX a j ∧ x.1 = up_setX a j v ∧ st_rc x.1 x.2) (fun x => st_wC cI o ar ac av vx py li x.1 x.2) 0 0 := by
  obtain ⟨⟨K, R, C, S, np⟩, M0, P, X, Y⟩ := a
  obtain ⟨⟨su, sa, sb, sc⟩, ⟨sp, ta, tb, tc⟩, ⟨f, g, w⟩, ⟨f2, g2, w2⟩, ⟨pR, pC, pV⟩, ⟨vX, pY, lI⟩⟩ := u
  have hr : st_RC K R C S np M0 P X Y f g w f2 pR pC pV vX pY := hr
  obtain ⟨⟨⟨b1, b2, b3, b4, b5, b6, b7, b8⟩, hM⟩, hsup, hf2, hpe, hps, hX, hY⟩ := id hr
  refine rs_I (cc := cX1_setX) (maxL := 3) (rty := .boolean) (by decide) rfl (Nat.le_of_ble_eq_true rfl) ?_
  intro p e s m args below meth c Q A ls hx hb hml hown hts hP hK hD hS hA hl ret
  have f17 := hts (.fieldLink RX1 17 "RowSparse" "cols" "I") (by decide +kernel)
  have f53 := hts (.fieldLink RX1 53 "RowSparse" "vector" "[I") (by decide +kernel)
  have hin1 : ∀ w ∈ u_ws RX1 TX1 12, w ∈ wsX1_setX := by decide +kernel
  have hl : lv_has ls 3 [(0, .ref o), (1, .int j), (2, .int v)] := hl
  have hP : va_P D vwCl [(o, .inr (1, [.int (nI K), .int (nI R), .int (nI C), .ref su, .ref sp, .ref ar, .ref ac, .ref av, .int (nI np), .ref vx, .ref py, .ref li])), (su, .inr (0, [.ref sa, .ref sb, .ref sc])), (sa, .inl (cI, S + 1, .inl f)), (sb, .inl (cI, K, .inl g)), (sc, .inl (cI, K, .inl w)), (sp, .inr (0, [.ref ta, .ref tb, .ref tc])), (ta, .inl (cI, S + 1, .inl f2)), (tb, .inl (cI, K, .inl g2)), (tc, .inl (cI, K, .inl w2)), (ar, .inl (cI, K, .inl pR)), (ac, .inl (cI, K, .inl pC)), (av, .inl (cI, K, .inl pV)), (vx, .inl (cI, S, .inl vX)), (py, .inl (cI, S, .inl pY)), (li, .inl (cI, S, .inl lI))] s.heap := hP
  have hD : va_D A [(o, .inr (1, [.int (nI K), .int (nI R), .int (nI C), .ref su, .ref sp, .ref ar, .ref ac, .ref av, .int (nI np), .ref vx, .ref py, .ref li])), (su, .inr (0, [.ref sa, .ref sb, .ref sc])), (sa, .inl (cI, S + 1, .inl f)), (sb, .inl (cI, K, .inl g)), (sc, .inl (cI, K, .inl w)), (sp, .inr (0, [.ref ta, .ref tb, .ref tc])), (ta, .inl (cI, S + 1, .inl f2)), (tb, .inl (cI, K, .inl g2)), (tc, .inl (cI, K, .inl w2)), (ar, .inl (cI, K, .inl pR)), (ac, .inl (cI, K, .inl pC)), (av, .inl (cI, K, .inl pV)), (vx, .inl (cI, S, .inl vX)), (py, .inl (cI, S, .inl pY)), (li, .inl (cI, S, .inl lI))] := hD
  refine lv_iload_n hx hb dX1_setX_0 rfl (lv_at hl 1 rfl) ?_
  refine lv_aload_n hx hb dX1_setX_1 rfl (lv_at hl 0 rfl) ?_
  refine va_get (D := D) (ci := 1) (v := .int (nI C)) (C := RX1) (T := TX1) (N := 12) hx hb hts hin1 hown hK hP 0 rfl rfl 2 (by decide) f17 (fun _ h9 => h9) rfl dX1_setX_2 ?_
  refine rs_cRS (As := [.int j, .int (nI C)]) (rest := []) ⟨hx, hb, hml, hown, hts⟩ hl.1 (c_isWithin l D cI j C (by omega)) (va_cwS 2 hts gX1_setX_X1_isWithin rfl rfl rfl (by decide +kernel) ⟨Nat.le_of_ble_eq_true rfl, Nat.le_of_ble_eq_true rfl⟩) hK hP [] rfl rfl rfl (Nat.le_of_ble_eq_true rfl) dX1_setX_5 (Nat.le_of_ble_eq_true rfl) (Nat.le_of_ble_eq_true rfl) (fun r hv => ?_)
  subst hv
  refine lv_if_ne (tgt := 13) hx hb dX1_setX_8 (by decide) (fun h1 => ?_) (fun h1 => ?_)
  · have h1 := ms_bI_n.mp h1
    obtain ⟨j0, hj0, rfl⟩ := ms_in_of h1 (by omega)
    refine lv_aload_n hx hb dX1_setX_13 rfl (lv_at hl 0 rfl) ?_
    refine va_get (D := D) (ci := 1) (v := .ref vx) (C := RX1) (T := TX1) (N := 12) hx hb hts hin1 hown hK hP 0 rfl rfl 9 (by decide) f53 (fun _ h9 => h9) rfl dX1_setX_14 ?_
    refine lv_iload_n hx hb dX1_setX_17 rfl (lv_at hl 1 rfl) ?_
    refine lv_iload_n hx hb dX1_setX_18 rfl (lv_at hl 2 rfl) ?_
    refine rv_iast hx hb hK hP hD hS 12 rfl rfl (by omega) (by omega) dX1_setX_19 (fun H locs hP hD hS => ?_)
    have hP : va_P D vwCl [(o, .inr (1, [.int (nI K), .int (nI R), .int (nI C), .ref su, .ref sp, .ref ar, .ref ac, .ref av, .int (nI np), .ref vx, .ref py, .ref li])), (su, .inr (0, [.ref sa, .ref sb, .ref sc])), (sa, .inl (cI, S + 1, .inl f)), (sb, .inl (cI, K, .inl g)), (sc, .inl (cI, K, .inl w)), (sp, .inr (0, [.ref ta, .ref tb, .ref tc])), (ta, .inl (cI, S + 1, .inl f2)), (tb, .inl (cI, K, .inl g2)), (tc, .inl (cI, K, .inl w2)), (ar, .inl (cI, K, .inl pR)), (ac, .inl (cI, K, .inl pC)), (av, .inl (cI, K, .inl pV)), (vx, .inl (cI, S, .inl (upd vX j0 v))), (py, .inl (cI, S, .inl pY)), (li, .inl (cI, S, .inl lI))] H := hP
    have hD : va_D A [(o, .inr (1, [.int (nI K), .int (nI R), .int (nI C), .ref su, .ref sp, .ref ar, .ref ac, .ref av, .int (nI np), .ref vx, .ref py, .ref li])), (su, .inr (0, [.ref sa, .ref sb, .ref sc])), (sa, .inl (cI, S + 1, .inl f)), (sb, .inl (cI, K, .inl g)), (sc, .inl (cI, K, .inl w)), (sp, .inr (0, [.ref ta, .ref tb, .ref tc])), (ta, .inl (cI, S + 1, .inl f2)), (tb, .inl (cI, K, .inl g2)), (tc, .inl (cI, K, .inl w2)), (ar, .inl (cI, K, .inl pR)), (ac, .inl (cI, K, .inl pC)), (av, .inl (cI, K, .inl pV)), (vx, .inl (cI, S, .inl (upd vX j0 v))), (py, .inl (cI, S, .inl pY)), (li, .inl (cI, S, .inl lI))] := hD
    refine lv_iconst (v := nI 1) hx hb dX1_setX_20 (by decide +kernel) ?_
    exact ret _ _ _ _ _ (((K, R, C, S, np), M0, P, upd X j0 v, Y), ((su, sa, sb, sc), (sp, ta, tb, tc), (f, g, w), (f2, g2, w2), (pR, pC, pV), (upd vX j0 v, pY, lI))) dX1_setX_21 (rfl) (⟨(an_setX_t (v := v) hj0 (by omega)).1, (an_setX_t hj0 (by omega)).2.symm, st_setx hr⟩) (hP.sub [0, 1, 2, 3, 4, 5, 6, 7, 8, 9, 10, 11, 12, 13, 14] rfl) (hD.sub [0, 1, 2, 3, 4, 5, 6, 7, 8, 9, 10, 11, 12, 13, 14] (by decide) rfl) hS
  · have h1 := ms_bI_0.mp h1
    refine lv_iconst (v := nI 0) hx hb dX1_setX_11 (by decide +kernel) ?_
    exact ret _ _ _ _ _ (((K, R, C, S, np), M0, P, X, Y), ((su, sa, sb, sc), (sp, ta, tb, tc), (f, g, w), (f2, g2, w2), (pR, pC, pV), (vX, pY, lI))) dX1_setX_12 (rfl) (⟨(an_setX_f (v := v) h1).1, (an_setX_f h1).2.symm, hr⟩) (hP.sub [0, 1, 2, 3, 4, 5, 6, 7, 8, 9, 10, 11, 12, 13, 14] rfl) (hD.sub [0, 1, 2, 3, 4, 5, 6, 7, 8, 9, 10, 11, 12, 13, 14] (by decide) rfl) hS

set_option maxHeartbeats 4000000 in
set_option maxRecDepth 100000 in
theorem c_multiplyVector (l : Launch) (D : va_G) (cI : ClassId) (o ar ac av vx py li : Nat) (a : st_A) (u : st_C) (hr : st_rc a u)  : MetI l yX1_multiplyVector wsX1_multiplyVector rm_1 D [(cI, .int)] [.ref o] (st_wC cI o ar ac av vx py li a u) (fun (r : Int32) (x : st_A × st_C) => r = 1 ∧ x.1 = up_mul a ∧ st_rc x.1 x.2) (fun x => st_wC cI o ar ac av vx py li x.1 x.2) 0 0 := by
  obtain ⟨⟨K, R, C, S, np⟩, M0, P, X, Y⟩ := a
  obtain ⟨⟨su, sa, sb, sc⟩, ⟨sp, ta, tb, tc⟩, ⟨f, g, w⟩, ⟨f2, g2, w2⟩, ⟨pR, pC, pV⟩, ⟨vX, pY, lI⟩⟩ := u
  have hr : st_RC K R C S np M0 P X Y f g w f2 pR pC pV vX pY := hr
  obtain ⟨⟨⟨b1, b2, b3, b4, b5, b6, b7, b8⟩, hM⟩, hsup, hf2, hpe, hps, hX, hY⟩ := id hr
  refine rs_I (cc := cX1_multiplyVector) (maxL := 2) (rty := .boolean) (by decide) rfl (Nat.le_of_ble_eq_true rfl) ?_
  intro p e s m args below meth c Q A ls hx hb hml hown hts hP hK hD hS hA hl ret
  have f13 := hts (.fieldLink RX1 13 "RowSparse" "rows" "I") (by decide +kernel)
  have f33 := hts (.fieldLink RX1 33 "RowSparse" "support" "LRowSparse$Support;") (by decide +kernel)
  have f53 := hts (.fieldLink RX1 53 "RowSparse" "vector" "[I") (by decide +kernel)
  have f56 := hts (.fieldLink RX1 56 "RowSparse" "product" "[I") (by decide +kernel)
  have hin1 : ∀ w ∈ u_ws RX1 TX1 12, w ∈ wsX1_multiplyVector := by decide +kernel
  have hl : lv_has ls 2 [(0, .ref o)] := hl
  have hP : va_P D vwCl [(o, .inr (1, [.int (nI K), .int (nI R), .int (nI C), .ref su, .ref sp, .ref ar, .ref ac, .ref av, .int (nI np), .ref vx, .ref py, .ref li])), (su, .inr (0, [.ref sa, .ref sb, .ref sc])), (sa, .inl (cI, S + 1, .inl f)), (sb, .inl (cI, K, .inl g)), (sc, .inl (cI, K, .inl w)), (sp, .inr (0, [.ref ta, .ref tb, .ref tc])), (ta, .inl (cI, S + 1, .inl f2)), (tb, .inl (cI, K, .inl g2)), (tc, .inl (cI, K, .inl w2)), (ar, .inl (cI, K, .inl pR)), (ac, .inl (cI, K, .inl pC)), (av, .inl (cI, K, .inl pV)), (vx, .inl (cI, S, .inl vX)), (py, .inl (cI, S, .inl pY)), (li, .inl (cI, S, .inl lI))] s.heap := hP
  have hD : va_D A [(o, .inr (1, [.int (nI K), .int (nI R), .int (nI C), .ref su, .ref sp, .ref ar, .ref ac, .ref av, .int (nI np), .ref vx, .ref py, .ref li])), (su, .inr (0, [.ref sa, .ref sb, .ref sc])), (sa, .inl (cI, S + 1, .inl f)), (sb, .inl (cI, K, .inl g)), (sc, .inl (cI, K, .inl w)), (sp, .inr (0, [.ref ta, .ref tb, .ref tc])), (ta, .inl (cI, S + 1, .inl f2)), (tb, .inl (cI, K, .inl g2)), (tc, .inl (cI, K, .inl w2)), (ar, .inl (cI, K, .inl pR)), (ac, .inl (cI, K, .inl pC)), (av, .inl (cI, K, .inl pV)), (vx, .inl (cI, S, .inl vX)), (py, .inl (cI, S, .inl pY)), (li, .inl (cI, S, .inl lI))] := hD
  refine lv_iconst (v := nI 0) hx hb dX1_multiplyVector_0 (by decide +kernel) ?_
  refine lv_istore_n (lv' := [(1, .int (nI 0)), (0, .ref o)]) hx hb dX1_multiplyVector_1 rfl hl (by decide) rfl (fun ls hl => ?_)
  have L2 : ∀ (k2 : Nat) (i : Nat) (y1 : Nat → Int32) (H : Heap) (locs : List Loc) (ls : Array Slot), i + k2 = R → (∀ t, t < i → y1 t = ms_sm (fun j => M0 t j * vX j) S) → va_P D vwCl [(o, .inr (1, [.int (nI K), .int (nI R), .int (nI C), .ref su, .ref sp, .ref ar, .ref ac, .ref av, .int (nI np), .ref vx, .ref py, .ref li])), (su, .inr (0, [.ref sa, .ref sb, .ref sc])), (sa, .inl (cI, S + 1, .inl f)), (sb, .inl (cI, K, .inl g)), (sc, .inl (cI, K, .inl w)), (sp, .inr (0, [.ref ta, .ref tb, .ref tc])), (ta, .inl (cI, S + 1, .inl f2)), (tb, .inl (cI, K, .inl g2)), (tc, .inl (cI, K, .inl w2)), (ar, .inl (cI, K, .inl pR)), (ac, .inl (cI, K, .inl pC)), (av, .inl (cI, K, .inl pV)), (vx, .inl (cI, S, .inl vX)), (py, .inl (cI, S, .inl y1)), (li, .inl (cI, S, .inl lI))] H → va_D A [(o, .inr (1, [.int (nI K), .int (nI R), .int (nI C), .ref su, .ref sp, .ref ar, .ref ac, .ref av, .int (nI np), .ref vx, .ref py, .ref li])), (su, .inr (0, [.ref sa, .ref sb, .ref sc])), (sa, .inl (cI, S + 1, .inl f)), (sb, .inl (cI, K, .inl g)), (sc, .inl (cI, K, .inl w)), (sp, .inr (0, [.ref ta, .ref tb, .ref tc])), (ta, .inl (cI, S + 1, .inl f2)), (tb, .inl (cI, K, .inl g2)), (tc, .inl (cI, K, .inl w2)), (ar, .inl (cI, K, .inl pR)), (ac, .inl (cI, K, .inl pC)), (av, .inl (cI, K, .inl pV)), (vx, .inl (cI, S, .inl vX)), (py, .inl (cI, S, .inl y1)), (li, .inl (cI, S, .inl lI))] → va_S A s.heap H locs → lv_has ls 2 [(1, .int (nI i)), (0, .ref o)] → W p l e rm_1 s m args below meth c H locs 0 0 Q (F0 m 2 ls []) := by
    intro k2
    induction k2 with
    | zero =>
      intro i y1 H locs ls hk2 hy hP hD hS hl
      refine lv_iload_n hx hb dX1_multiplyVector_2 rfl (lv_at hl 0 rfl) ?_
      refine lv_aload_n hx hb dX1_multiplyVector_3 rfl (lv_at hl 1 rfl) ?_
      refine va_get (D := D) (ci := 1) (v := .int (nI R)) (C := RX1) (T := TX1) (N := 12) hx hb hts hin1 hown hK hP 0 rfl rfl 1 (by decide) f13 (fun _ h9 => h9) rfl dX1_multiplyVector_4 ?_
      refine rv_ge_t (tgt := 34) hx hb dX1_multiplyVector_7 (by decide) (by omega) (by omega) ?_
      refine lv_iconst (v := nI 1) hx hb dX1_multiplyVector_34 (by decide +kernel) ?_
      exact ret _ _ _ _ _ (((K, R, C, S, np), M0, P, X, fun i => ms_sm (fun j => M0 i j * X j) C), ((su, sa, sb, sc), (sp, ta, tb, tc), (f, g, w), (f2, g2, w2), (pR, pC, pV), (vX, y1, lI))) dX1_multiplyVector_35 (rfl) (⟨ms_n1, rfl, st_mul hr (fun t ht => hy t (by omega))⟩) (hP.sub [0, 1, 2, 3, 4, 5, 6, 7, 8, 9, 10, 11, 12, 13, 14] rfl) (hD.sub [0, 1, 2, 3, 4, 5, 6, 7, 8, 9, 10, 11, 12, 13, 14] (by decide) rfl) hS
    | succ k2 ih2 =>
      intro i y1 H locs ls hk2 hy hP hD hS hl
      have hi0 : i < R := by omega
      obtain ⟨e0, e1, h01, h1k, e2⟩ := ms_Sq hsup hi0
      refine lv_iload_n hx hb dX1_multiplyVector_2 rfl (lv_at hl 0 rfl) ?_
      refine lv_aload_n hx hb dX1_multiplyVector_3 rfl (lv_at hl 1 rfl) ?_
      refine va_get (D := D) (ci := 1) (v := .int (nI R)) (C := RX1) (T := TX1) (N := 12) hx hb hts hin1 hown hK hP 0 rfl rfl 1 (by decide) f13 (fun _ h9 => h9) rfl dX1_multiplyVector_4 ?_
      refine rv_ge_f (tgt := 34) hx hb dX1_multiplyVector_7 (by decide) (by omega) (by omega) ?_
      refine lv_aload_n hx hb dX1_multiplyVector_10 rfl (lv_at hl 1 rfl) ?_
      refine va_get (D := D) (ci := 1) (v := .ref py) (C := RX1) (T := TX1) (N := 12) hx hb hts hin1 hown hK hP 0 rfl rfl 10 (by decide) f56 (fun _ h9 => h9) rfl dX1_multiplyVector_11 ?_
      refine lv_iload_n hx hb dX1_multiplyVector_14 rfl (lv_at hl 0 rfl) ?_
      refine lv_aload_n hx hb dX1_multiplyVector_15 rfl (lv_at hl 1 rfl) ?_
      refine va_get (D := D) (ci := 1) (v := .ref su) (C := RX1) (T := TX1) (N := 12) hx hb hts hin1 hown hK hP 0 rfl rfl 3 (by decide) f33 (fun _ h9 => h9) rfl dX1_multiplyVector_16 ?_
      refine lv_iload_n hx hb dX1_multiplyVector_19 rfl (lv_at hl 0 rfl) ?_
      refine lv_aload_n hx hb dX1_multiplyVector_20 rfl (lv_at hl 1 rfl) ?_
      refine va_get (D := D) (ci := 1) (v := .ref vx) (C := RX1) (T := TX1) (N := 12) hx hb hts hin1 hown hK hP 0 rfl rfl 9 (by decide) f53 (fun _ h9 => h9) rfl dX1_multiplyVector_21 ?_
      refine rs_cR (As := [.int (nI i), .ref vx]) (rest := [.int (nI i), .ref py]) ⟨hx, hb, hml, hown, hts⟩ hl.1 (c_rowTimes l D cI su sa sb sc (S + 1) K f g w vx S vX (ms_J g (ms_sc M0 S i)) i (ms_sc M0 S i) (ms_sc M0 S (i + 1)) (by omega) (by omega) (by omega) e0 e1 h01 h1k (by omega) (fun t ht => ⟨(ms_Jt hsup (by omega) hi0 (show t < ms_rc (M0 i) S by omega)).2.2.1, (ms_Jt hsup (by omega) hi0 (show t < ms_rc (M0 i) S by omega)).1⟩)) (cwV 2 hts gX1_multiplyVector_X0_rowTimes rfl rfl rfl (by decide +kernel) ⟨Nat.le_of_ble_eq_true rfl, Nat.le_of_ble_eq_true rfl⟩) hK hP [1, 2, 3, 4, 12] rfl rfl rfl rfl rfl (Nat.le_of_ble_eq_true rfl) dX1_multiplyVector_24 (Nat.le_of_ble_eq_true rfl) (Nat.le_of_ble_eq_true rfl) (fun r hv => ?_)
      have hv : r = ms_sm (fun j => M0 i j * vX j) S := by
        rw [hv, e2]
        exact ms_rowsum hsup (by omega) hi0 (fun j v => v * vX j) (fun j => Int32.zero_mul)
      subst hv
      refine rv_iast hx hb hK hP hD hS 13 rfl rfl (by omega) (by omega) dX1_multiplyVector_27 (fun H locs hP hD hS => ?_)
      have hP : va_P D vwCl [(o, .inr (1, [.int (nI K), .int (nI R), .int (nI C), .ref su, .ref sp, .ref ar, .ref ac, .ref av, .int (nI np), .ref vx, .ref py, .ref li])), (su, .inr (0, [.ref sa, .ref sb, .ref sc])), (sa, .inl (cI, S + 1, .inl f)), (sb, .inl (cI, K, .inl g)), (sc, .inl (cI, K, .inl w)), (sp, .inr (0, [.ref ta, .ref tb, .ref tc])), (ta, .inl (cI, S + 1, .inl f2)), (tb, .inl (cI, K, .inl g2)), (tc, .inl (cI, K, .inl w2)), (ar, .inl (cI, K, .inl pR)), (ac, .inl (cI, K, .inl pC)), (av, .inl (cI, K, .inl pV)), (vx, .inl (cI, S, .inl vX)), (py, .inl (cI, S, .inl (upd y1 i (ms_sm (fun j => M0 i j * vX j) S)))), (li, .inl (cI, S, .inl lI))] H := hP
      have hD : va_D A [(o, .inr (1, [.int (nI K), .int (nI R), .int (nI C), .ref su, .ref sp, .ref ar, .ref ac, .ref av, .int (nI np), .ref vx, .ref py, .ref li])), (su, .inr (0, [.ref sa, .ref sb, .ref sc])), (sa, .inl (cI, S + 1, .inl f)), (sb, .inl (cI, K, .inl g)), (sc, .inl (cI, K, .inl w)), (sp, .inr (0, [.ref ta, .ref tb, .ref tc])), (ta, .inl (cI, S + 1, .inl f2)), (tb, .inl (cI, K, .inl g2)), (tc, .inl (cI, K, .inl w2)), (ar, .inl (cI, K, .inl pR)), (ac, .inl (cI, K, .inl pC)), (av, .inl (cI, K, .inl pV)), (vx, .inl (cI, S, .inl vX)), (py, .inl (cI, S, .inl (upd y1 i (ms_sm (fun j => M0 i j * vX j) S)))), (li, .inl (cI, S, .inl lI))] := hD
      refine lv_iinc (v := nI (i + 1)) (lv' := [(1, .int (nI (i + 1))), (0, .ref o)]) hx hb dX1_multiplyVector_28 hl (k := 0) rfl (rv_inc _) (by decide) rfl (fun ls hl => ?_)
      refine lv_goto (tgt := 2) hx hb dX1_multiplyVector_31 (by decide) ?_
      exact ih2 (i + 1) (upd y1 i (ms_sm (fun j => M0 i j * vX j) S)) _ _ _ (by omega) (ms_updstep (F := fun t => ms_sm (fun j => M0 t j * vX j) S) hy) (hP.sub [0, 1, 2, 3, 4, 5, 6, 7, 8, 9, 10, 11, 12, 13, 14] rfl) (hD.sub [0, 1, 2, 3, 4, 5, 6, 7, 8, 9, 10, 11, 12, 13, 14] (by decide) rfl) hS (lv_sub hl [0, 1] rfl)
  exact L2 _ 0 pY _ _ _ (Nat.zero_add _) (fun t ht => absurd ht (Nat.not_lt_zero t)) (hP.sub [0, 1, 2, 3, 4, 5, 6, 7, 8, 9, 10, 11, 12, 13, 14] rfl) (hD.sub [0, 1, 2, 3, 4, 5, 6, 7, 8, 9, 10, 11, 12, 13, 14] (by decide) rfl) hS (lv_sub hl [0, 1] rfl)

set_option maxHeartbeats 4000000 in
set_option maxRecDepth 100000 in
theorem c_build (l : Launch) (D : va_G) (cI : ClassId) (o ar ac av vx py li : Nat) (a : st_A) (u : st_C) (hr : st_rc a u)  : MetI l yX1_build wsX1_build rm_2 D [(cI, .int)] [.ref o] (st_wC cI o ar ac av vx py li a u) (fun (r : Int32) (x : st_A × st_C) => r = an_build a ∧ x.1 = up_build a ∧ st_rc x.1 x.2) (fun x => st_wC cI o ar ac av vx py li x.1 x.2) 0 0 := by
  obtain ⟨⟨K, R, C, S, np⟩, M0, P, X, Y⟩ := a
  obtain ⟨⟨su, sa, sb, sc⟩, ⟨sp, ta, tb, tc⟩, ⟨f, g, w⟩, ⟨f2, g2, w2⟩, ⟨pR, pC, pV⟩, ⟨vX, pY, lI⟩⟩ := u
  have hr : st_RC K R C S np M0 P X Y f g w f2 pR pC pV vX pY := hr
  obtain ⟨⟨⟨b1, b2, b3, b4, b5, b6, b7, b8⟩, hM⟩, hsup, hf2, hpe, hps, hX, hY⟩ := id hr
  refine rs_I (cc := cX1_build) (maxL := 2) (rty := .int) (by decide) rfl (Nat.le_of_ble_eq_true rfl) ?_
  intro p e s m args below meth c Q A ls hx hb hml hown hts hP hK hD hS hA hl ret
  have f13 := hts (.fieldLink RX1 13 "RowSparse" "rows" "I") (by decide +kernel)
  have f33 := hts (.fieldLink RX1 33 "RowSparse" "support" "LRowSparse$Support;") (by decide +kernel)
  have f37 := hts (.fieldLink RX1 37 "RowSparse" "spare" "LRowSparse$Support;") (by decide +kernel)
  have f50 := hts (.fieldLink RX1 50 "RowSparse" "pending" "I") (by decide +kernel)
  have f59 := hts (.fieldLink RX1 59 "RowSparse" "line" "[I") (by decide +kernel)
  have hin1 : ∀ w ∈ u_ws RX1 TX1 12, w ∈ wsX1_build := by decide +kernel
  have hl : lv_has ls 2 [(0, .ref o)] := hl
  have hP : va_P D vwCl [(o, .inr (1, [.int (nI K), .int (nI R), .int (nI C), .ref su, .ref sp, .ref ar, .ref ac, .ref av, .int (nI np), .ref vx, .ref py, .ref li])), (su, .inr (0, [.ref sa, .ref sb, .ref sc])), (sa, .inl (cI, S + 1, .inl f)), (sb, .inl (cI, K, .inl g)), (sc, .inl (cI, K, .inl w)), (sp, .inr (0, [.ref ta, .ref tb, .ref tc])), (ta, .inl (cI, S + 1, .inl f2)), (tb, .inl (cI, K, .inl g2)), (tc, .inl (cI, K, .inl w2)), (ar, .inl (cI, K, .inl pR)), (ac, .inl (cI, K, .inl pC)), (av, .inl (cI, K, .inl pV)), (vx, .inl (cI, S, .inl vX)), (py, .inl (cI, S, .inl pY)), (li, .inl (cI, S, .inl lI))] s.heap := hP
  have hD : va_D A [(o, .inr (1, [.int (nI K), .int (nI R), .int (nI C), .ref su, .ref sp, .ref ar, .ref ac, .ref av, .int (nI np), .ref vx, .ref py, .ref li])), (su, .inr (0, [.ref sa, .ref sb, .ref sc])), (sa, .inl (cI, S + 1, .inl f)), (sb, .inl (cI, K, .inl g)), (sc, .inl (cI, K, .inl w)), (sp, .inr (0, [.ref ta, .ref tb, .ref tc])), (ta, .inl (cI, S + 1, .inl f2)), (tb, .inl (cI, K, .inl g2)), (tc, .inl (cI, K, .inl w2)), (ar, .inl (cI, K, .inl pR)), (ac, .inl (cI, K, .inl pC)), (av, .inl (cI, K, .inl pV)), (vx, .inl (cI, S, .inl vX)), (py, .inl (cI, S, .inl pY)), (li, .inl (cI, S, .inl lI))] := hD
  refine lv_iconst (v := nI 0) hx hb dX1_build_0 (by decide +kernel) ?_
  refine lv_istore_n (lv' := [(1, .int (nI 0)), (0, .ref o)]) hx hb dX1_build_1 rfl hl (by decide) rfl (fun ls hl => ?_)
  have L2 : ∀ (k2 : Nat) (i : Nat) (f3 : Nat → Int32) (g3 : Nat → Int32) (w3 : Nat → Int32) (l1 : Nat → Int32) (H : Heap) (locs : List Loc) (ls : Array Slot), i + k2 = R → ms_Sup K S i (ms_pl R C M0 P) f3 g3 w3 → va_P D vwCl [(o, .inr (1, [.int (nI K), .int (nI R), .int (nI C), .ref su, .ref sp, .ref ar, .ref ac, .ref av, .int (nI np), .ref vx, .ref py, .ref li])), (su, .inr (0, [.ref sa, .ref sb, .ref sc])), (sa, .inl (cI, S + 1, .inl f)), (sb, .inl (cI, K, .inl g)), (sc, .inl (cI, K, .inl w)), (sp, .inr (0, [.ref ta, .ref tb, .ref tc])), (ta, .inl (cI, S + 1, .inl f3)), (tb, .inl (cI, K, .inl g3)), (tc, .inl (cI, K, .inl w3)), (ar, .inl (cI, K, .inl pR)), (ac, .inl (cI, K, .inl pC)), (av, .inl (cI, K, .inl pV)), (vx, .inl (cI, S, .inl vX)), (py, .inl (cI, S, .inl pY)), (li, .inl (cI, S, .inl l1))] H → va_D A [(o, .inr (1, [.int (nI K), .int (nI R), .int (nI C), .ref su, .ref sp, .ref ar, .ref ac, .ref av, .int (nI np), .ref vx, .ref py, .ref li])), (su, .inr (0, [.ref sa, .ref sb, .ref sc])), (sa, .inl (cI, S + 1, .inl f)), (sb, .inl (cI, K, .inl g)), (sc, .inl (cI, K, .inl w)), (sp, .inr (0, [.ref ta, .ref tb, .ref tc])), (ta, .inl (cI, S + 1, .inl f3)), (tb, .inl (cI, K, .inl g3)), (tc, .inl (cI, K, .inl w3)), (ar, .inl (cI, K, .inl pR)), (ac, .inl (cI, K, .inl pC)), (av, .inl (cI, K, .inl pV)), (vx, .inl (cI, S, .inl vX)), (py, .inl (cI, S, .inl pY)), (li, .inl (cI, S, .inl l1))] → va_S A s.heap H locs → lv_has ls 2 [(1, .int (nI i)), (0, .ref o)] → W p l e rm_2 s m args below meth c H locs 0 0 Q (F0 m 2 ls []) := by
    intro k2
    induction k2 with
    | zero =>
      intro i f3 g3 w3 l1 H locs ls hk2 hs hP hD hS hl
      have hs : ms_Sup K S R (ms_pl R C M0 P) f3 g3 w3 := by rw [show i = R by omega] at hs; exact hs
      refine lv_iload_n hx hb dX1_build_2 rfl (lv_at hl 0 rfl) ?_
      refine lv_aload_n hx hb dX1_build_3 rfl (lv_at hl 1 rfl) ?_
      refine va_get (D := D) (ci := 1) (v := .int (nI R)) (C := RX1) (T := TX1) (N := 12) hx hb hts hin1 hown hK hP 0 rfl rfl 1 (by decide) f13 (fun _ h9 => h9) rfl dX1_build_4 ?_
      refine rv_ge_t (tgt := 63) hx hb dX1_build_7 (by decide) (by omega) (by omega) ?_
      refine lv_aload_n hx hb dX1_build_63 rfl (lv_at hl 1 rfl) ?_
      refine rs_cV (As := []) (rest := []) (WR := [(su, .inr (0, [.ref sa, .ref sb, .ref sc])), (sa, .inl (cI, S + 1, .inl f)), (sb, .inl (cI, K, .inl g)), (sc, .inl (cI, K, .inl w)), (sp, .inr (0, [.ref ta, .ref tb, .ref tc])), (ta, .inl (cI, S + 1, .inl f3)), (tb, .inl (cI, K, .inl g3)), (tc, .inl (cI, K, .inl w3)), (ar, .inl (cI, K, .inl pR)), (ac, .inl (cI, K, .inl pC)), (av, .inl (cI, K, .inl pV)), (vx, .inl (cI, S, .inl vX)), (py, .inl (cI, S, .inl pY)), (li, .inl (cI, S, .inl l1))]) ⟨hx, hb, hml, hown, hts⟩ hl.1 (c_swapSupports l D cI o K R C su sp ar ac av vx py li np) (cwV 0 hts gX1_build_X1_swapSupports rfl rfl rfl (by decide +kernel) ⟨Nat.le_of_ble_eq_true rfl, Nat.le_of_ble_eq_true rfl⟩) hK hP hD hS hA [0] [1, 2, 3, 4, 5, 6, 7, 8, 9, 10, 11, 12, 13, 14] rfl rfl (by decide) (by decide) (by decide) rfl rfl rfl rfl (Nat.le_of_ble_eq_true rfl) dX1_build_64 (Nat.le_of_ble_eq_true rfl) (Nat.le_of_ble_eq_true rfl) (fun u H locs hu hP hD hS => ?_)
      have hP : va_P D vwCl [(su, .inr (0, [.ref sa, .ref sb, .ref sc])), (sa, .inl (cI, S + 1, .inl f)), (sb, .inl (cI, K, .inl g)), (sc, .inl (cI, K, .inl w)), (sp, .inr (0, [.ref ta, .ref tb, .ref tc])), (ta, .inl (cI, S + 1, .inl f3)), (tb, .inl (cI, K, .inl g3)), (tc, .inl (cI, K, .inl w3)), (ar, .inl (cI, K, .inl pR)), (ac, .inl (cI, K, .inl pC)), (av, .inl (cI, K, .inl pV)), (vx, .inl (cI, S, .inl vX)), (py, .inl (cI, S, .inl pY)), (li, .inl (cI, S, .inl l1)), (o, .inr (1, [.int (nI K), .int (nI R), .int (nI C), .ref sp, .ref su, .ref ar, .ref ac, .ref av, .int (nI np), .ref vx, .ref py, .ref li]))] H := hP
      have hD : va_D A [(su, .inr (0, [.ref sa, .ref sb, .ref sc])), (sa, .inl (cI, S + 1, .inl f)), (sb, .inl (cI, K, .inl g)), (sc, .inl (cI, K, .inl w)), (sp, .inr (0, [.ref ta, .ref tb, .ref tc])), (ta, .inl (cI, S + 1, .inl f3)), (tb, .inl (cI, K, .inl g3)), (tc, .inl (cI, K, .inl w3)), (ar, .inl (cI, K, .inl pR)), (ac, .inl (cI, K, .inl pC)), (av, .inl (cI, K, .inl pV)), (vx, .inl (cI, S, .inl vX)), (py, .inl (cI, S, .inl pY)), (li, .inl (cI, S, .inl l1)), (o, .inr (1, [.int (nI K), .int (nI R), .int (nI C), .ref sp, .ref su, .ref ar, .ref ac, .ref av, .int (nI np), .ref vx, .ref py, .ref li]))] := hD
      refine lv_aload_n hx hb dX1_build_67 rfl (lv_at hl 1 rfl) ?_
      refine lv_iconst (v := nI 0) hx hb dX1_build_68 (by decide +kernel) ?_
      refine va_put (D := D) (ci := 1) (v := .int (nI 0)) (ty := .int) (C := RX1) (T := TX1) (N := 12) hx hb hts hin1 tyX1 tyX1_ok nmX1 hown hK hP hD hS 14 rfl rfl 8 (by decide) f50 (fun _ h9 => h9) rfl (by decide +kernel) rfl rfl (Nat.le_of_ble_eq_true rfl) dX1_build_69 (fun H locs hP hD hS => ?_)
      have hP : va_P D vwCl [(su, .inr (0, [.ref sa, .ref sb, .ref sc])), (sa, .inl (cI, S + 1, .inl f)), (sb, .inl (cI, K, .inl g)), (sc, .inl (cI, K, .inl w)), (sp, .inr (0, [.ref ta, .ref tb, .ref tc])), (ta, .inl (cI, S + 1, .inl f3)), (tb, .inl (cI, K, .inl g3)), (tc, .inl (cI, K, .inl w3)), (ar, .inl (cI, K, .inl pR)), (ac, .inl (cI, K, .inl pC)), (av, .inl (cI, K, .inl pV)), (vx, .inl (cI, S, .inl vX)), (py, .inl (cI, S, .inl pY)), (li, .inl (cI, S, .inl l1)), (o, .inr (1, [.int (nI K), .int (nI R), .int (nI C), .ref sp, .ref su, .ref ar, .ref ac, .ref av, .int (nI 0), .ref vx, .ref py, .ref li]))] H := hP
      have hD : va_D A [(su, .inr (0, [.ref sa, .ref sb, .ref sc])), (sa, .inl (cI, S + 1, .inl f)), (sb, .inl (cI, K, .inl g)), (sc, .inl (cI, K, .inl w)), (sp, .inr (0, [.ref ta, .ref tb, .ref tc])), (ta, .inl (cI, S + 1, .inl f3)), (tb, .inl (cI, K, .inl g3)), (tc, .inl (cI, K, .inl w3)), (ar, .inl (cI, K, .inl pR)), (ac, .inl (cI, K, .inl pC)), (av, .inl (cI, K, .inl pV)), (vx, .inl (cI, S, .inl vX)), (py, .inl (cI, S, .inl pY)), (li, .inl (cI, S, .inl l1)), (o, .inr (1, [.int (nI K), .int (nI R), .int (nI C), .ref sp, .ref su, .ref ar, .ref ac, .ref av, .int (nI 0), .ref vx, .ref py, .ref li]))] := hD
      refine lv_aload_n hx hb dX1_build_72 rfl (lv_at hl 1 rfl) ?_
      refine va_get (D := D) (ci := 1) (v := .ref sp) (C := RX1) (T := TX1) (N := 12) hx hb hts hin1 hown hK hP 14 rfl rfl 3 (by decide) f33 (fun _ h9 => h9) rfl dX1_build_73 ?_
      refine lv_aload_n hx hb dX1_build_76 rfl (lv_at hl 1 rfl) ?_
      refine va_get (D := D) (ci := 1) (v := .int (nI R)) (C := RX1) (T := TX1) (N := 12) hx hb hts hin1 hown hK hP 14 rfl rfl 1 (by decide) f13 (fun _ h9 => h9) rfl dX1_build_77 ?_
      refine rs_cR (As := [.int (nI R)]) (rest := []) ⟨hx, hb, hml, hown, hts⟩ hl.1 (c_placesAhead l D cI sp ta tb tc (S + 1) R f3 (by omega) (by omega)) (cwV 1 hts gX1_build_X0_placesAhead rfl rfl rfl (by decide +kernel) ⟨Nat.le_of_ble_eq_true rfl, Nat.le_of_ble_eq_true rfl⟩) hK hP [4, 5] rfl rfl rfl rfl rfl (Nat.le_of_ble_eq_true rfl) dX1_build_80 (Nat.le_of_ble_eq_true rfl) (Nat.le_of_ble_eq_true rfl) (fun r hv => ?_)
      subst hv
      refine rv_top (hs.1 R (Nat.le_refl _)) ?_
      exact ret _ _ _ _ _ (((K, R, C, S, 0), (ms_pl R C M0 P), (fun _ _ => 0), X, Y), ((sp, ta, tb, tc), (su, sa, sb, sc), (f3, g3, w3), (f, g, w), (pR, pC, pV), (vX, pY, l1))) dX1_build_83 (rfl) (⟨(an_build_t hs.2.1).1, (an_build_t hs.2.1).2.symm, st_build hr hs⟩) (hP.sub [14, 4, 5, 6, 7, 0, 1, 2, 3, 8, 9, 10, 11, 12, 13] rfl) (hD.sub [14, 4, 5, 6, 7, 0, 1, 2, 3, 8, 9, 10, 11, 12, 13] (by decide) rfl) hS
    | succ k2 ih2 =>
      intro i f3 g3 w3 l1 H locs ls hk2 hs hP hD hS hl
      have hi0 : i < R := by omega
      obtain ⟨e0, e1, h01, h1k, e2⟩ := ms_Sq hsup hi0
      refine lv_iload_n hx hb dX1_build_2 rfl (lv_at hl 0 rfl) ?_
      refine lv_aload_n hx hb dX1_build_3 rfl (lv_at hl 1 rfl) ?_
      refine va_get (D := D) (ci := 1) (v := .int (nI R)) (C := RX1) (T := TX1) (N := 12) hx hb hts hin1 hown hK hP 0 rfl rfl 1 (by decide) f13 (fun _ h9 => h9) rfl dX1_build_4 ?_
      refine rv_ge_f (tgt := 63) hx hb dX1_build_7 (by decide) (by omega) (by omega) ?_
      refine lv_aload_n hx hb dX1_build_10 rfl (lv_at hl 1 rfl) ?_
      refine va_get (D := D) (ci := 1) (v := .ref li) (C := RX1) (T := TX1) (N := 12) hx hb hts hin1 hown hK hP 0 rfl rfl 11 (by decide) f59 (fun _ h9 => h9) rfl dX1_build_11 ?_
      refine lv_iconst (v := nI 0) hx hb dX1_build_14 (by decide +kernel) ?_
      refine rs_cVS (As := [.ref li, .int (nI 0)]) (rest := []) (WR := [(o, .inr (1, [.int (nI K), .int (nI R), .int (nI C), .ref su, .ref sp, .ref ar, .ref ac, .ref av, .int (nI np), .ref vx, .ref py, .ref li])), (su, .inr (0, [.ref sa, .ref sb, .ref sc])), (sa, .inl (cI, S + 1, .inl f)), (sb, .inl (cI, K, .inl g)), (sc, .inl (cI, K, .inl w)), (sp, .inr (0, [.ref ta, .ref tb, .ref tc])), (ta, .inl (cI, S + 1, .inl f3)), (tb, .inl (cI, K, .inl g3)), (tc, .inl (cI, K, .inl w3)), (ar, .inl (cI, K, .inl pR)), (ac, .inl (cI, K, .inl pC)), (av, .inl (cI, K, .inl pV)), (vx, .inl (cI, S, .inl vX)), (py, .inl (cI, S, .inl pY))]) ⟨hx, hb, hml, hown, hts⟩ hl.1 (c_fill l D cI li S l1 (nI 0) (by omega)) (va_cwS 2 hts gX1_build_J7_fill_53178 rfl rfl rfl (by decide +kernel) ⟨Nat.le_of_ble_eq_true rfl, Nat.le_of_ble_eq_true rfl⟩) hK hP hD hS hA [14] [0, 1, 2, 3, 4, 5, 6, 7, 8, 9, 10, 11, 12, 13] rfl rfl (by decide) (by decide) (by decide) rfl rfl (Nat.le_of_ble_eq_true rfl) dX1_build_15 (Nat.le_of_ble_eq_true rfl) (Nat.le_of_ble_eq_true rfl) (fun u H locs hu hP hD hS => ?_)
      obtain ⟨u1, e9⟩ : ∃ z, z = u := ⟨_, rfl⟩
      subst e9
      have hu1 := hu
      have hP : va_P D vwCl [(o, .inr (1, [.int (nI K), .int (nI R), .int (nI C), .ref su, .ref sp, .ref ar, .ref ac, .ref av, .int (nI np), .ref vx, .ref py, .ref li])), (su, .inr (0, [.ref sa, .ref sb, .ref sc])), (sa, .inl (cI, S + 1, .inl f)), (sb, .inl (cI, K, .inl g)), (sc, .inl (cI, K, .inl w)), (sp, .inr (0, [.ref ta, .ref tb, .ref tc])), (ta, .inl (cI, S + 1, .inl f3)), (tb, .inl (cI, K, .inl g3)), (tc, .inl (cI, K, .inl w3)), (ar, .inl (cI, K, .inl pR)), (ac, .inl (cI, K, .inl pC)), (av, .inl (cI, K, .inl pV)), (vx, .inl (cI, S, .inl vX)), (py, .inl (cI, S, .inl pY)), (li, .inl (cI, S, .inl u1))] H := hP
      have hD : va_D A [(o, .inr (1, [.int (nI K), .int (nI R), .int (nI C), .ref su, .ref sp, .ref ar, .ref ac, .ref av, .int (nI np), .ref vx, .ref py, .ref li])), (su, .inr (0, [.ref sa, .ref sb, .ref sc])), (sa, .inl (cI, S + 1, .inl f)), (sb, .inl (cI, K, .inl g)), (sc, .inl (cI, K, .inl w)), (sp, .inr (0, [.ref ta, .ref tb, .ref tc])), (ta, .inl (cI, S + 1, .inl f3)), (tb, .inl (cI, K, .inl g3)), (tc, .inl (cI, K, .inl w3)), (ar, .inl (cI, K, .inl pR)), (ac, .inl (cI, K, .inl pC)), (av, .inl (cI, K, .inl pV)), (vx, .inl (cI, S, .inl vX)), (py, .inl (cI, S, .inl pY)), (li, .inl (cI, S, .inl u1))] := hD
      refine lv_aload_n hx hb dX1_build_18 rfl (lv_at hl 1 rfl) ?_
      refine va_get (D := D) (ci := 1) (v := .ref su) (C := RX1) (T := TX1) (N := 12) hx hb hts hin1 hown hK hP 0 rfl rfl 3 (by decide) f33 (fun _ h9 => h9) rfl dX1_build_19 ?_
      refine lv_aload_n hx hb dX1_build_22 rfl (lv_at hl 1 rfl) ?_
      refine va_get (D := D) (ci := 1) (v := .ref li) (C := RX1) (T := TX1) (N := 12) hx hb hts hin1 hown hK hP 0 rfl rfl 11 (by decide) f59 (fun _ h9 => h9) rfl dX1_build_23 ?_
      refine lv_iload_n hx hb dX1_build_26 rfl (lv_at hl 0 rfl) ?_
      refine lv_iconst (v := nI 1) hx hb dX1_build_27 (by decide +kernel) ?_
      refine rs_cV (As := [.ref li, .int (nI i), .int (nI 1)]) (rest := []) (WR := [(o, .inr (1, [.int (nI K), .int (nI R), .int (nI C), .ref su, .ref sp, .ref ar, .ref ac, .ref av, .int (nI np), .ref vx, .ref py, .ref li])), (sp, .inr (0, [.ref ta, .ref tb, .ref tc])), (ta, .inl (cI, S + 1, .inl f3)), (tb, .inl (cI, K, .inl g3)), (tc, .inl (cI, K, .inl w3)), (ar, .inl (cI, K, .inl pR)), (ac, .inl (cI, K, .inl pC)), (av, .inl (cI, K, .inl pV)), (vx, .inl (cI, S, .inl vX)), (py, .inl (cI, S, .inl pY))]) ⟨hx, hb, hml, hown, hts⟩ hl.1 (c_addRowTo l D cI su sa sb sc (S + 1) K f g w li S u1 (nI 1) (ms_J g (ms_sc M0 S i)) i (ms_sc M0 S i) (ms_sc M0 S (i + 1)) (by omega) (by omega) (by omega) e0 e1 h01 h1k (by omega) (fun t ht => ⟨(ms_Jt hsup (by omega) hi0 (show t < ms_rc (M0 i) S by omega)).2.2.1, (ms_Jt hsup (by omega) hi0 (show t < ms_rc (M0 i) S by omega)).1⟩)) (cwV 3 hts gX1_build_X0_addRowTo rfl rfl rfl (by decide +kernel) ⟨Nat.le_of_ble_eq_true rfl, Nat.le_of_ble_eq_true rfl⟩) hK hP hD hS hA [1, 2, 3, 4, 14] [0, 5, 6, 7, 8, 9, 10, 11, 12, 13] rfl rfl (by decide) (by decide) (by decide) rfl rfl rfl rfl (Nat.le_of_ble_eq_true rfl) dX1_build_28 (Nat.le_of_ble_eq_true rfl) (Nat.le_of_ble_eq_true rfl) (fun u H locs hu hP hD hS => ?_)
      obtain ⟨u2, e9⟩ : ∃ z, z = u := ⟨_, rfl⟩
      subst e9
      have hP : va_P D vwCl [(o, .inr (1, [.int (nI K), .int (nI R), .int (nI C), .ref su, .ref sp, .ref ar, .ref ac, .ref av, .int (nI np), .ref vx, .ref py, .ref li])), (sp, .inr (0, [.ref ta, .ref tb, .ref tc])), (ta, .inl (cI, S + 1, .inl f3)), (tb, .inl (cI, K, .inl g3)), (tc, .inl (cI, K, .inl w3)), (ar, .inl (cI, K, .inl pR)), (ac, .inl (cI, K, .inl pC)), (av, .inl (cI, K, .inl pV)), (vx, .inl (cI, S, .inl vX)), (py, .inl (cI, S, .inl pY)), (su, .inr (0, [.ref sa, .ref sb, .ref sc])), (sa, .inl (cI, S + 1, .inl f)), (sb, .inl (cI, K, .inl g)), (sc, .inl (cI, K, .inl w)), (li, .inl (cI, S, .inl u2))] H := hP
      have hD : va_D A [(o, .inr (1, [.int (nI K), .int (nI R), .int (nI C), .ref su, .ref sp, .ref ar, .ref ac, .ref av, .int (nI np), .ref vx, .ref py, .ref li])), (sp, .inr (0, [.ref ta, .ref tb, .ref tc])), (ta, .inl (cI, S + 1, .inl f3)), (tb, .inl (cI, K, .inl g3)), (tc, .inl (cI, K, .inl w3)), (ar, .inl (cI, K, .inl pR)), (ac, .inl (cI, K, .inl pC)), (av, .inl (cI, K, .inl pV)), (vx, .inl (cI, S, .inl vX)), (py, .inl (cI, S, .inl pY)), (su, .inr (0, [.ref sa, .ref sb, .ref sc])), (sa, .inl (cI, S + 1, .inl f)), (sb, .inl (cI, K, .inl g)), (sc, .inl (cI, K, .inl w)), (li, .inl (cI, S, .inl u2))] := hD
      have hu2 : ∀ j, j < S → u2 j = u1 j + nI 1 * M0 i j := ms_addrow hsup (by omega) hi0 hu
      refine lv_aload_n hx hb dX1_build_31 rfl (lv_at hl 1 rfl) ?_
      refine lv_aload_n hx hb dX1_build_32 rfl (lv_at hl 1 rfl) ?_
      refine va_get (D := D) (ci := 1) (v := .ref li) (C := RX1) (T := TX1) (N := 12) hx hb hts hin1 hown hK hP 0 rfl rfl 11 (by decide) f59 (fun _ h9 => h9) rfl dX1_build_33 ?_
      refine lv_iload_n hx hb dX1_build_36 rfl (lv_at hl 0 rfl) ?_
      refine rs_cV (As := [.ref li, .int (nI i)]) (rest := []) (WR := [(sp, .inr (0, [.ref ta, .ref tb, .ref tc])), (ta, .inl (cI, S + 1, .inl f3)), (tb, .inl (cI, K, .inl g3)), (tc, .inl (cI, K, .inl w3)), (vx, .inl (cI, S, .inl vX)), (py, .inl (cI, S, .inl pY)), (su, .inr (0, [.ref sa, .ref sb, .ref sc])), (sa, .inl (cI, S + 1, .inl f)), (sb, .inl (cI, K, .inl g)), (sc, .inl (cI, K, .inl w))]) ⟨hx, hb, hml, hown, hts⟩ hl.1 (c_addPendingTo l D cI o K R C su sp ar ac av vx py li np li S i pR pC pV u2 (fun p => (pC p).toNatClampNeg) (by omega) b8 (by omega) (fun p hp => st_pcol (by omega) hpe hp)) (cwV 2 hts gX1_build_X1_addPendingTo rfl rfl rfl (by decide +kernel) ⟨Nat.le_of_ble_eq_true rfl, Nat.le_of_ble_eq_true rfl⟩) hK hP hD hS hA [0, 5, 6, 7, 14] [1, 2, 3, 4, 8, 9, 10, 11, 12, 13] rfl rfl (by decide) (by decide) (by decide) rfl rfl rfl rfl (Nat.le_of_ble_eq_true rfl) dX1_build_37 (Nat.le_of_ble_eq_true rfl) (Nat.le_of_ble_eq_true rfl) (fun u H locs hu hP hD hS => ?_)
      obtain ⟨u3, e9⟩ : ∃ z, z = u := ⟨_, rfl⟩
      subst e9
      have hP : va_P D vwCl [(sp, .inr (0, [.ref ta, .ref tb, .ref tc])), (ta, .inl (cI, S + 1, .inl f3)), (tb, .inl (cI, K, .inl g3)), (tc, .inl (cI, K, .inl w3)), (vx, .inl (cI, S, .inl vX)), (py, .inl (cI, S, .inl pY)), (su, .inr (0, [.ref sa, .ref sb, .ref sc])), (sa, .inl (cI, S + 1, .inl f)), (sb, .inl (cI, K, .inl g)), (sc, .inl (cI, K, .inl w)), (o, .inr (1, [.int (nI K), .int (nI R), .int (nI C), .ref su, .ref sp, .ref ar, .ref ac, .ref av, .int (nI np), .ref vx, .ref py, .ref li])), (ar, .inl (cI, K, .inl pR)), (ac, .inl (cI, K, .inl pC)), (av, .inl (cI, K, .inl pV)), (li, .inl (cI, S, .inl u3))] H := hP
      have hD : va_D A [(sp, .inr (0, [.ref ta, .ref tb, .ref tc])), (ta, .inl (cI, S + 1, .inl f3)), (tb, .inl (cI, K, .inl g3)), (tc, .inl (cI, K, .inl w3)), (vx, .inl (cI, S, .inl vX)), (py, .inl (cI, S, .inl pY)), (su, .inr (0, [.ref sa, .ref sb, .ref sc])), (sa, .inl (cI, S + 1, .inl f)), (sb, .inl (cI, K, .inl g)), (sc, .inl (cI, K, .inl w)), (o, .inr (1, [.int (nI K), .int (nI R), .int (nI C), .ref su, .ref sp, .ref ar, .ref ac, .ref av, .int (nI np), .ref vx, .ref py, .ref li])), (ar, .inl (cI, K, .inl pR)), (ac, .inl (cI, K, .inl pC)), (av, .inl (cI, K, .inl pV)), (li, .inl (cI, S, .inl u3))] := hD
      have hu3 : ∀ j, j < S → u3 j = ms_pl R C M0 P i j := st_line hr hi0 hu1 hu2 hu
      refine lv_aload_n hx hb dX1_build_40 rfl (lv_at hl 1 rfl) ?_
      refine va_get (D := D) (ci := 1) (v := .ref sp) (C := RX1) (T := TX1) (N := 12) hx hb hts hin1 hown hK hP 10 rfl rfl 4 (by decide) f37 (fun _ h9 => h9) rfl dX1_build_41 ?_
      refine lv_iload_n hx hb dX1_build_44 rfl (lv_at hl 0 rfl) ?_
      refine lv_aload_n hx hb dX1_build_45 rfl (lv_at hl 1 rfl) ?_
      refine va_get (D := D) (ci := 1) (v := .ref li) (C := RX1) (T := TX1) (N := 12) hx hb hts hin1 hown hK hP 10 rfl rfl 11 (by decide) f59 (fun _ h9 => h9) rfl dX1_build_46 ?_
      refine rs_cI (As := [.int (nI i), .ref li]) (rest := []) (WR := [(vx, .inl (cI, S, .inl vX)), (py, .inl (cI, S, .inl pY)), (su, .inr (0, [.ref sa, .ref sb, .ref sc])), (sa, .inl (cI, S + 1, .inl f)), (sb, .inl (cI, K, .inl g)), (sc, .inl (cI, K, .inl w)), (o, .inr (1, [.int (nI K), .int (nI R), .int (nI C), .ref su, .ref sp, .ref ar, .ref ac, .ref av, .int (nI np), .ref vx, .ref py, .ref li])), (ar, .inl (cI, K, .inl pR)), (ac, .inl (cI, K, .inl pC)), (av, .inl (cI, K, .inl pV))]) ⟨hx, hb, hml, hown, hts⟩ hl.1 (c_putRow l D cI sp ta tb tc (S + 1) K f3 g3 w3 li S u3 i (ms_sc (ms_pl R C M0 P) S i) (by omega) (by omega) (by omega) (by omega) (hs.1 i (Nat.le_refl _)) hs.2.1) (cwV 2 hts gX1_build_X0_putRow rfl rfl rfl (by decide +kernel) ⟨Nat.le_of_ble_eq_true rfl, Nat.le_of_ble_eq_true rfl⟩) hK hP hD hS hA [0, 1, 2, 3, 14] [4, 5, 6, 7, 8, 9, 10, 11, 12, 13] rfl rfl (by decide) (by decide) (by decide) rfl rfl rfl rfl (Nat.le_of_ble_eq_true rfl) dX1_build_49 (Nat.le_of_ble_eq_true rfl) (Nat.le_of_ble_eq_true rfl) (fun r u H locs hu hP hD hS => ?_)
      obtain ⟨f4, g4, w4⟩ := u
      have hP : va_P D vwCl [(vx, .inl (cI, S, .inl vX)), (py, .inl (cI, S, .inl pY)), (su, .inr (0, [.ref sa, .ref sb, .ref sc])), (sa, .inl (cI, S + 1, .inl f)), (sb, .inl (cI, K, .inl g)), (sc, .inl (cI, K, .inl w)), (o, .inr (1, [.int (nI K), .int (nI R), .int (nI C), .ref su, .ref sp, .ref ar, .ref ac, .ref av, .int (nI np), .ref vx, .ref py, .ref li])), (ar, .inl (cI, K, .inl pR)), (ac, .inl (cI, K, .inl pC)), (av, .inl (cI, K, .inl pV)), (sp, .inr (0, [.ref ta, .ref tb, .ref tc])), (ta, .inl (cI, S + 1, .inl f4)), (tb, .inl (cI, K, .inl g4)), (tc, .inl (cI, K, .inl w4)), (li, .inl (cI, S, .inl u3))] H := hP
      have hD : va_D A [(vx, .inl (cI, S, .inl vX)), (py, .inl (cI, S, .inl pY)), (su, .inr (0, [.ref sa, .ref sb, .ref sc])), (sa, .inl (cI, S + 1, .inl f)), (sb, .inl (cI, K, .inl g)), (sc, .inl (cI, K, .inl w)), (o, .inr (1, [.int (nI K), .int (nI R), .int (nI C), .ref su, .ref sp, .ref ar, .ref ac, .ref av, .int (nI np), .ref vx, .ref py, .ref li])), (ar, .inl (cI, K, .inl pR)), (ac, .inl (cI, K, .inl pC)), (av, .inl (cI, K, .inl pV)), (sp, .inr (0, [.ref ta, .ref tb, .ref tc])), (ta, .inl (cI, S + 1, .inl f4)), (tb, .inl (cI, K, .inl g4)), (tc, .inl (cI, K, .inl w4)), (li, .inl (cI, S, .inl u3))] := hD
      rcases hu with ⟨k1, rfl, k3, k4, k5⟩ | ⟨k1, rfl, k3⟩
      · refine rv_ifne_t (tgt := 57) hx hb dX1_build_52 (by decide) (by decide) ?_
        refine lv_iinc (v := nI (i + 1)) (lv' := [(1, .int (nI (i + 1))), (0, .ref o)]) hx hb dX1_build_57 hl (k := 0) rfl (rv_inc _) (by decide) rfl (fun ls hl => ?_)
        refine lv_goto (tgt := 2) hx hb dX1_build_60 (by decide) ?_
        exact ih2 (i + 1) f4 g4 w4 u3 _ _ _ (by omega) (ms_supstep hs hu3 k1 k3 k4 k5) (hP.sub [6, 2, 3, 4, 5, 10, 11, 12, 13, 7, 8, 9, 0, 1, 14] rfl) (hD.sub [6, 2, 3, 4, 5, 10, 11, 12, 13, 7, 8, 9, 0, 1, 14] (by decide) rfl) hS (lv_sub hl [0, 1] rfl)
      · refine rv_ifne_f (tgt := 57) hx hb dX1_build_52 (by decide) rfl ?_
        refine lv_iconst (v := (-1)) hx hb dX1_build_55 (by decide +kernel) ?_
        exact ret _ _ _ _ _ (((K, R, C, S, np), M0, P, X, Y), ((su, sa, sb, sc), (sp, ta, tb, tc), (f, g, w), (f4, g4, w4), (pR, pC, pV), (vX, pY, u3))) dX1_build_56 (rfl) (⟨(an_build_f (ms_sc_over hi0 hu3 k1)).1, (an_build_f (ms_sc_over hi0 hu3 k1)).2.symm, st_spare hr (by have k3 : f4 = f3 := k3; rw [k3]; exact st_sup0 hs)⟩) (hP.sub [6, 2, 3, 4, 5, 10, 11, 12, 13, 7, 8, 9, 0, 1, 14] rfl) (hD.sub [6, 2, 3, 4, 5, 10, 11, 12, 13, 7, 8, 9, 0, 1, 14] (by decide) rfl) hS
  exact L2 _ 0 f2 g2 w2 lI _ _ _ (Nat.zero_add _) (ms_sup0 hf2) (hP.sub [0, 1, 2, 3, 4, 5, 6, 7, 8, 9, 10, 11, 12, 13, 14] rfl) (hD.sub [0, 1, 2, 3, 4, 5, 6, 7, 8, 9, 10, 11, 12, 13, 14] (by decide) rfl) hS (lv_sub hl [0, 1] rfl)

set_option maxHeartbeats 4000000 in
set_option maxRecDepth 100000 in
theorem c_square (l : Launch) (D : va_G) (cI : ClassId) (o ar ac av vx py li : Nat) (a : st_A) (u : st_C) (hr : st_rc a u)  : MetI l yX1_square wsX1_square rm_2 D [(cI, .int)] [.ref o] (st_wC cI o ar ac av vx py li a u) (fun (r : Int32) (x : st_A × st_C) => r = an_square a ∧ x.1 = up_square a ∧ st_rc x.1 x.2) (fun x => st_wC cI o ar ac av vx py li x.1 x.2) 0 0 := by
  obtain ⟨⟨K, R, C, S, np⟩, M0, P, X, Y⟩ := a
  obtain ⟨⟨su, sa, sb, sc⟩, ⟨sp, ta, tb, tc⟩, ⟨f, g, w⟩, ⟨f2, g2, w2⟩, ⟨pR, pC, pV⟩, ⟨vX, pY, lI⟩⟩ := u
  have hr : st_RC K R C S np M0 P X Y f g w f2 pR pC pV vX pY := hr
  obtain ⟨⟨⟨b1, b2, b3, b4, b5, b6, b7, b8⟩, hM⟩, hsup, hf2, hpe, hps, hX, hY⟩ := id hr
  refine rs_I (cc := cX1_square) (maxL := 2) (rty := .int) (by decide) rfl (Nat.le_of_ble_eq_true rfl) ?_
  intro p e s m args below meth c Q A ls hx hb hml hown hts hP hK hD hS hA hl ret
  have f13 := hts (.fieldLink RX1 13 "RowSparse" "rows" "I") (by decide +kernel)
  have f17 := hts (.fieldLink RX1 17 "RowSparse" "cols" "I") (by decide +kernel)
  have f33 := hts (.fieldLink RX1 33 "RowSparse" "support" "LRowSparse$Support;") (by decide +kernel)
  have f37 := hts (.fieldLink RX1 37 "RowSparse" "spare" "LRowSparse$Support;") (by decide +kernel)
  have f59 := hts (.fieldLink RX1 59 "RowSparse" "line" "[I") (by decide +kernel)
  have hin1 : ∀ w ∈ u_ws RX1 TX1 12, w ∈ wsX1_square := by decide +kernel
  have hl : lv_has ls 2 [(0, .ref o)] := hl
  have hP : va_P D vwCl [(o, .inr (1, [.int (nI K), .int (nI R), .int (nI C), .ref su, .ref sp, .ref ar, .ref ac, .ref av, .int (nI np), .ref vx, .ref py, .ref li])), (su, .inr (0, [.ref sa, .ref sb, .ref sc])), (sa, .inl (cI, S + 1, .inl f)), (sb, .inl (cI, K, .inl g)), (sc, .inl (cI, K, .inl w)), (sp, .inr (0, [.ref ta, .ref tb, .ref tc])), (ta, .inl (cI, S + 1, .inl f2)), (tb, .inl (cI, K, .inl g2)), (tc, .inl (cI, K, .inl w2)), (ar, .inl (cI, K, .inl pR)), (ac, .inl (cI, K, .inl pC)), (av, .inl (cI, K, .inl pV)), (vx, .inl (cI, S, .inl vX)), (py, .inl (cI, S, .inl pY)), (li, .inl (cI, S, .inl lI))] s.heap := hP
  have hD : va_D A [(o, .inr (1, [.int (nI K), .int (nI R), .int (nI C), .ref su, .ref sp, .ref ar, .ref ac, .ref av, .int (nI np), .ref vx, .ref py, .ref li])), (su, .inr (0, [.ref sa, .ref sb, .ref sc])), (sa, .inl (cI, S + 1, .inl f)), (sb, .inl (cI, K, .inl g)), (sc, .inl (cI, K, .inl w)), (sp, .inr (0, [.ref ta, .ref tb, .ref tc])), (ta, .inl (cI, S + 1, .inl f2)), (tb, .inl (cI, K, .inl g2)), (tc, .inl (cI, K, .inl w2)), (ar, .inl (cI, K, .inl pR)), (ac, .inl (cI, K, .inl pC)), (av, .inl (cI, K, .inl pV)), (vx, .inl (cI, S, .inl vX)), (py, .inl (cI, S, .inl pY)), (li, .inl (cI, S, .inl lI))] := hD
  refine lv_aload_n hx hb dX1_square_0 rfl (lv_at hl 0 rfl) ?_
  refine va_get (D := D) (ci := 1) (v := .int (nI R)) (C := RX1) (T := TX1) (N := 12) hx hb hts hin1 hown hK hP 0 rfl rfl 1 (by decide) f13 (fun _ h9 => h9) rfl dX1_square_1 ?_
  refine lv_aload_n hx hb dX1_square_4 rfl (lv_at hl 0 rfl) ?_
  refine va_get (D := D) (ci := 1) (v := .int (nI C)) (C := RX1) (T := TX1) (N := 12) hx hb hts hin1 hown hK hP 0 rfl rfl 2 (by decide) f17 (fun _ h9 => h9) rfl dX1_square_5 ?_
  refine rv_eq (tgt := 14) hx hb dX1_square_8 (by decide) (by omega) (by omega) (fun hRC => ?_) (fun hRC => ?_)
  · refine lv_iconst (v := nI 0) hx hb dX1_square_14 (by decide +kernel) ?_
    refine lv_istore_n (lv' := [(1, .int (nI 0)), (0, .ref o)]) hx hb dX1_square_15 rfl hl (by decide) rfl (fun ls hl => ?_)
    have L16 : ∀ (k16 : Nat) (i : Nat) (f3 : Nat → Int32) (g3 : Nat → Int32) (w3 : Nat → Int32) (l1 : Nat → Int32) (H : Heap) (locs : List Loc) (ls : Array Slot), i + k16 = R → ms_Sup K S i (ms_sq S M0) f3 g3 w3 → va_P D vwCl [(o, .inr (1, [.int (nI K), .int (nI R), .int (nI C), .ref su, .ref sp, .ref ar, .ref ac, .ref av, .int (nI np), .ref vx, .ref py, .ref li])), (su, .inr (0, [.ref sa, .ref sb, .ref sc])), (sa, .inl (cI, S + 1, .inl f)), (sb, .inl (cI, K, .inl g)), (sc, .inl (cI, K, .inl w)), (sp, .inr (0, [.ref ta, .ref tb, .ref tc])), (ta, .inl (cI, S + 1, .inl f3)), (tb, .inl (cI, K, .inl g3)), (tc, .inl (cI, K, .inl w3)), (ar, .inl (cI, K, .inl pR)), (ac, .inl (cI, K, .inl pC)), (av, .inl (cI, K, .inl pV)), (vx, .inl (cI, S, .inl vX)), (py, .inl (cI, S, .inl pY)), (li, .inl (cI, S, .inl l1))] H → va_D A [(o, .inr (1, [.int (nI K), .int (nI R), .int (nI C), .ref su, .ref sp, .ref ar, .ref ac, .ref av, .int (nI np), .ref vx, .ref py, .ref li])), (su, .inr (0, [.ref sa, .ref sb, .ref sc])), (sa, .inl (cI, S + 1, .inl f)), (sb, .inl (cI, K, .inl g)), (sc, .inl (cI, K, .inl w)), (sp, .inr (0, [.ref ta, .ref tb, .ref tc])), (ta, .inl (cI, S + 1, .inl f3)), (tb, .inl (cI, K, .inl g3)), (tc, .inl (cI, K, .inl w3)), (ar, .inl (cI, K, .inl pR)), (ac, .inl (cI, K, .inl pC)), (av, .inl (cI, K, .inl pV)), (vx, .inl (cI, S, .inl vX)), (py, .inl (cI, S, .inl pY)), (li, .inl (cI, S, .inl l1))] → va_S A s.heap H locs → lv_has ls 2 [(1, .int (nI i)), (0, .ref o)] → W p l e rm_2 s m args below meth c H locs 0 0 Q (F0 m 16 ls []) := by
      intro k16
      induction k16 with
      | zero =>
        intro i f3 g3 w3 l1 H locs ls hk16 hs hP hD hS hl
        have hs : ms_Sup K S R (ms_sq S M0) f3 g3 w3 := by rw [show i = R by omega] at hs; exact hs
        refine lv_iload_n hx hb dX1_square_16 rfl (lv_at hl 0 rfl) ?_
        refine lv_aload_n hx hb dX1_square_17 rfl (lv_at hl 1 rfl) ?_
        refine va_get (D := D) (ci := 1) (v := .int (nI R)) (C := RX1) (T := TX1) (N := 12) hx hb hts hin1 hown hK hP 0 rfl rfl 1 (by decide) f13 (fun _ h9 => h9) rfl dX1_square_18 ?_
        refine rv_ge_t (tgt := 67) hx hb dX1_square_21 (by decide) (by omega) (by omega) ?_
        refine lv_aload_n hx hb dX1_square_67 rfl (lv_at hl 1 rfl) ?_
        refine rs_cV (As := []) (rest := []) (WR := [(su, .inr (0, [.ref sa, .ref sb, .ref sc])), (sa, .inl (cI, S + 1, .inl f)), (sb, .inl (cI, K, .inl g)), (sc, .inl (cI, K, .inl w)), (sp, .inr (0, [.ref ta, .ref tb, .ref tc])), (ta, .inl (cI, S + 1, .inl f3)), (tb, .inl (cI, K, .inl g3)), (tc, .inl (cI, K, .inl w3)), (ar, .inl (cI, K, .inl pR)), (ac, .inl (cI, K, .inl pC)), (av, .inl (cI, K, .inl pV)), (vx, .inl (cI, S, .inl vX)), (py, .inl (cI, S, .inl pY)), (li, .inl (cI, S, .inl l1))]) ⟨hx, hb, hml, hown, hts⟩ hl.1 (c_swapSupports l D cI o K R C su sp ar ac av vx py li np) (cwV 0 hts gX1_square_X1_swapSupports rfl rfl rfl (by decide +kernel) ⟨Nat.le_of_ble_eq_true rfl, Nat.le_of_ble_eq_true rfl⟩) hK hP hD hS hA [0] [1, 2, 3, 4, 5, 6, 7, 8, 9, 10, 11, 12, 13, 14] rfl rfl (by decide) (by decide) (by decide) rfl rfl rfl rfl (Nat.le_of_ble_eq_true rfl) dX1_square_68 (Nat.le_of_ble_eq_true rfl) (Nat.le_of_ble_eq_true rfl) (fun u H locs hu hP hD hS => ?_)
        have hP : va_P D vwCl [(su, .inr (0, [.ref sa, .ref sb, .ref sc])), (sa, .inl (cI, S + 1, .inl f)), (sb, .inl (cI, K, .inl g)), (sc, .inl (cI, K, .inl w)), (sp, .inr (0, [.ref ta, .ref tb, .ref tc])), (ta, .inl (cI, S + 1, .inl f3)), (tb, .inl (cI, K, .inl g3)), (tc, .inl (cI, K, .inl w3)), (ar, .inl (cI, K, .inl pR)), (ac, .inl (cI, K, .inl pC)), (av, .inl (cI, K, .inl pV)), (vx, .inl (cI, S, .inl vX)), (py, .inl (cI, S, .inl pY)), (li, .inl (cI, S, .inl l1)), (o, .inr (1, [.int (nI K), .int (nI R), .int (nI C), .ref sp, .ref su, .ref ar, .ref ac, .ref av, .int (nI np), .ref vx, .ref py, .ref li]))] H := hP
        have hD : va_D A [(su, .inr (0, [.ref sa, .ref sb, .ref sc])), (sa, .inl (cI, S + 1, .inl f)), (sb, .inl (cI, K, .inl g)), (sc, .inl (cI, K, .inl w)), (sp, .inr (0, [.ref ta, .ref tb, .ref tc])), (ta, .inl (cI, S + 1, .inl f3)), (tb, .inl (cI, K, .inl g3)), (tc, .inl (cI, K, .inl w3)), (ar, .inl (cI, K, .inl pR)), (ac, .inl (cI, K, .inl pC)), (av, .inl (cI, K, .inl pV)), (vx, .inl (cI, S, .inl vX)), (py, .inl (cI, S, .inl pY)), (li, .inl (cI, S, .inl l1)), (o, .inr (1, [.int (nI K), .int (nI R), .int (nI C), .ref sp, .ref su, .ref ar, .ref ac, .ref av, .int (nI np), .ref vx, .ref py, .ref li]))] := hD
        refine lv_aload_n hx hb dX1_square_71 rfl (lv_at hl 1 rfl) ?_
        refine va_get (D := D) (ci := 1) (v := .ref sp) (C := RX1) (T := TX1) (N := 12) hx hb hts hin1 hown hK hP 14 rfl rfl 3 (by decide) f33 (fun _ h9 => h9) rfl dX1_square_72 ?_
        refine lv_aload_n hx hb dX1_square_75 rfl (lv_at hl 1 rfl) ?_
        refine va_get (D := D) (ci := 1) (v := .int (nI R)) (C := RX1) (T := TX1) (N := 12) hx hb hts hin1 hown hK hP 14 rfl rfl 1 (by decide) f13 (fun _ h9 => h9) rfl dX1_square_76 ?_
        refine rs_cR (As := [.int (nI R)]) (rest := []) ⟨hx, hb, hml, hown, hts⟩ hl.1 (c_placesAhead l D cI sp ta tb tc (S + 1) R f3 (by omega) (by omega)) (cwV 1 hts gX1_square_X0_placesAhead rfl rfl rfl (by decide +kernel) ⟨Nat.le_of_ble_eq_true rfl, Nat.le_of_ble_eq_true rfl⟩) hK hP [4, 5] rfl rfl rfl rfl rfl (Nat.le_of_ble_eq_true rfl) dX1_square_79 (Nat.le_of_ble_eq_true rfl) (Nat.le_of_ble_eq_true rfl) (fun r hv => ?_)
        subst hv
        refine rv_top (hs.1 R (Nat.le_refl _)) ?_
        exact ret _ _ _ _ _ (((K, R, C, S, np), (ms_sq S M0), P, X, Y), ((sp, ta, tb, tc), (su, sa, sb, sc), (f3, g3, w3), (f, g, w), (pR, pC, pV), (vX, pY, l1))) dX1_square_82 (rfl) (⟨(an_square_t hRC hs.2.1).1, (an_square_t hRC hs.2.1).2.symm, st_square hr hs⟩) (hP.sub [14, 4, 5, 6, 7, 0, 1, 2, 3, 8, 9, 10, 11, 12, 13] rfl) (hD.sub [14, 4, 5, 6, 7, 0, 1, 2, 3, 8, 9, 10, 11, 12, 13] (by decide) rfl) hS
      | succ k16 ih16 =>
        intro i f3 g3 w3 l1 H locs ls hk16 hs hP hD hS hl
        have hi0 : i < R := by omega
        obtain ⟨e0, e1, h01, h1k, e2⟩ := ms_Sq hsup hi0
        refine lv_iload_n hx hb dX1_square_16 rfl (lv_at hl 0 rfl) ?_
        refine lv_aload_n hx hb dX1_square_17 rfl (lv_at hl 1 rfl) ?_
        refine va_get (D := D) (ci := 1) (v := .int (nI R)) (C := RX1) (T := TX1) (N := 12) hx hb hts hin1 hown hK hP 0 rfl rfl 1 (by decide) f13 (fun _ h9 => h9) rfl dX1_square_18 ?_
        refine rv_ge_f (tgt := 67) hx hb dX1_square_21 (by decide) (by omega) (by omega) ?_
        refine lv_aload_n hx hb dX1_square_24 rfl (lv_at hl 1 rfl) ?_
        refine va_get (D := D) (ci := 1) (v := .ref li) (C := RX1) (T := TX1) (N := 12) hx hb hts hin1 hown hK hP 0 rfl rfl 11 (by decide) f59 (fun _ h9 => h9) rfl dX1_square_25 ?_
        refine lv_iconst (v := nI 0) hx hb dX1_square_28 (by decide +kernel) ?_
        refine rs_cVS (As := [.ref li, .int (nI 0)]) (rest := []) (WR := [(o, .inr (1, [.int (nI K), .int (nI R), .int (nI C), .ref su, .ref sp, .ref ar, .ref ac, .ref av, .int (nI np), .ref vx, .ref py, .ref li])), (su, .inr (0, [.ref sa, .ref sb, .ref sc])), (sa, .inl (cI, S + 1, .inl f)), (sb, .inl (cI, K, .inl g)), (sc, .inl (cI, K, .inl w)), (sp, .inr (0, [.ref ta, .ref tb, .ref tc])), (ta, .inl (cI, S + 1, .inl f3)), (tb, .inl (cI, K, .inl g3)), (tc, .inl (cI, K, .inl w3)), (ar, .inl (cI, K, .inl pR)), (ac, .inl (cI, K, .inl pC)), (av, .inl (cI, K, .inl pV)), (vx, .inl (cI, S, .inl vX)), (py, .inl (cI, S, .inl pY))]) ⟨hx, hb, hml, hown, hts⟩ hl.1 (c_fill l D cI li S l1 (nI 0) (by omega)) (va_cwS 2 hts gX1_square_J7_fill_53178 rfl rfl rfl (by decide +kernel) ⟨Nat.le_of_ble_eq_true rfl, Nat.le_of_ble_eq_true rfl⟩) hK hP hD hS hA [14] [0, 1, 2, 3, 4, 5, 6, 7, 8, 9, 10, 11, 12, 13] rfl rfl (by decide) (by decide) (by decide) rfl rfl (Nat.le_of_ble_eq_true rfl) dX1_square_29 (Nat.le_of_ble_eq_true rfl) (Nat.le_of_ble_eq_true rfl) (fun u H locs hu hP hD hS => ?_)
        obtain ⟨u1, e9⟩ : ∃ z, z = u := ⟨_, rfl⟩
        subst e9
        have hu1 := hu
        have hP : va_P D vwCl [(o, .inr (1, [.int (nI K), .int (nI R), .int (nI C), .ref su, .ref sp, .ref ar, .ref ac, .ref av, .int (nI np), .ref vx, .ref py, .ref li])), (su, .inr (0, [.ref sa, .ref sb, .ref sc])), (sa, .inl (cI, S + 1, .inl f)), (sb, .inl (cI, K, .inl g)), (sc, .inl (cI, K, .inl w)), (sp, .inr (0, [.ref ta, .ref tb, .ref tc])), (ta, .inl (cI, S + 1, .inl f3)), (tb, .inl (cI, K, .inl g3)), (tc, .inl (cI, K, .inl w3)), (ar, .inl (cI, K, .inl pR)), (ac, .inl (cI, K, .inl pC)), (av, .inl (cI, K, .inl pV)), (vx, .inl (cI, S, .inl vX)), (py, .inl (cI, S, .inl pY)), (li, .inl (cI, S, .inl u1))] H := hP
        have hD : va_D A [(o, .inr (1, [.int (nI K), .int (nI R), .int (nI C), .ref su, .ref sp, .ref ar, .ref ac, .ref av, .int (nI np), .ref vx, .ref py, .ref li])), (su, .inr (0, [.ref sa, .ref sb, .ref sc])), (sa, .inl (cI, S + 1, .inl f)), (sb, .inl (cI, K, .inl g)), (sc, .inl (cI, K, .inl w)), (sp, .inr (0, [.ref ta, .ref tb, .ref tc])), (ta, .inl (cI, S + 1, .inl f3)), (tb, .inl (cI, K, .inl g3)), (tc, .inl (cI, K, .inl w3)), (ar, .inl (cI, K, .inl pR)), (ac, .inl (cI, K, .inl pC)), (av, .inl (cI, K, .inl pV)), (vx, .inl (cI, S, .inl vX)), (py, .inl (cI, S, .inl pY)), (li, .inl (cI, S, .inl u1))] := hD
        refine lv_aload_n hx hb dX1_square_32 rfl (lv_at hl 1 rfl) ?_
        refine va_get (D := D) (ci := 1) (v := .ref su) (C := RX1) (T := TX1) (N := 12) hx hb hts hin1 hown hK hP 0 rfl rfl 3 (by decide) f33 (fun _ h9 => h9) rfl dX1_square_33 ?_
        refine lv_aload_n hx hb dX1_square_36 rfl (lv_at hl 1 rfl) ?_
        refine va_get (D := D) (ci := 1) (v := .ref li) (C := RX1) (T := TX1) (N := 12) hx hb hts hin1 hown hK hP 0 rfl rfl 11 (by decide) f59 (fun _ h9 => h9) rfl dX1_square_37 ?_
        refine lv_iload_n hx hb dX1_square_40 rfl (lv_at hl 0 rfl) ?_
        refine rs_cV (As := [.ref li, .int (nI i)]) (rest := []) (WR := [(o, .inr (1, [.int (nI K), .int (nI R), .int (nI C), .ref su, .ref sp, .ref ar, .ref ac, .ref av, .int (nI np), .ref vx, .ref py, .ref li])), (sp, .inr (0, [.ref ta, .ref tb, .ref tc])), (ta, .inl (cI, S + 1, .inl f3)), (tb, .inl (cI, K, .inl g3)), (tc, .inl (cI, K, .inl w3)), (ar, .inl (cI, K, .inl pR)), (ac, .inl (cI, K, .inl pC)), (av, .inl (cI, K, .inl pV)), (vx, .inl (cI, S, .inl vX)), (py, .inl (cI, S, .inl pY))]) ⟨hx, hb, hml, hown, hts⟩ hl.1 (c_addSquaredRowTo l D cI su sa sb sc K li S R i f g w u1 M0 hsup hi0 (by omega) (by omega) (by omega) (fun a b hz => Nat.lt_of_not_le (fun q => hz (hM a b (Or.inr (by omega)))))) (cwV 2 hts gX1_square_X0_addSquaredRowTo rfl rfl rfl (by decide +kernel) ⟨Nat.le_of_ble_eq_true rfl, Nat.le_of_ble_eq_true rfl⟩) hK hP hD hS hA [1, 2, 3, 4, 14] [0, 5, 6, 7, 8, 9, 10, 11, 12, 13] rfl rfl (by decide) (by decide) (by decide) rfl rfl rfl rfl (Nat.le_of_ble_eq_true rfl) dX1_square_41 (Nat.le_of_ble_eq_true rfl) (Nat.le_of_ble_eq_true rfl) (fun u H locs hu hP hD hS => ?_)
        obtain ⟨u3, e9⟩ : ∃ z, z = u := ⟨_, rfl⟩
        subst e9
        have hP : va_P D vwCl [(o, .inr (1, [.int (nI K), .int (nI R), .int (nI C), .ref su, .ref sp, .ref ar, .ref ac, .ref av, .int (nI np), .ref vx, .ref py, .ref li])), (sp, .inr (0, [.ref ta, .ref tb, .ref tc])), (ta, .inl (cI, S + 1, .inl f3)), (tb, .inl (cI, K, .inl g3)), (tc, .inl (cI, K, .inl w3)), (ar, .inl (cI, K, .inl pR)), (ac, .inl (cI, K, .inl pC)), (av, .inl (cI, K, .inl pV)), (vx, .inl (cI, S, .inl vX)), (py, .inl (cI, S, .inl pY)), (su, .inr (0, [.ref sa, .ref sb, .ref sc])), (sa, .inl (cI, S + 1, .inl f)), (sb, .inl (cI, K, .inl g)), (sc, .inl (cI, K, .inl w)), (li, .inl (cI, S, .inl u3))] H := hP
        have hD : va_D A [(o, .inr (1, [.int (nI K), .int (nI R), .int (nI C), .ref su, .ref sp, .ref ar, .ref ac, .ref av, .int (nI np), .ref vx, .ref py, .ref li])), (sp, .inr (0, [.ref ta, .ref tb, .ref tc])), (ta, .inl (cI, S + 1, .inl f3)), (tb, .inl (cI, K, .inl g3)), (tc, .inl (cI, K, .inl w3)), (ar, .inl (cI, K, .inl pR)), (ac, .inl (cI, K, .inl pC)), (av, .inl (cI, K, .inl pV)), (vx, .inl (cI, S, .inl vX)), (py, .inl (cI, S, .inl pY)), (su, .inr (0, [.ref sa, .ref sb, .ref sc])), (sa, .inl (cI, S + 1, .inl f)), (sb, .inl (cI, K, .inl g)), (sc, .inl (cI, K, .inl w)), (li, .inl (cI, S, .inl u3))] := hD
        have hu3 : ∀ j, j < S → u3 j = ms_sq S M0 i j := fun j hj => by rw [hu j hj, hu1 j hj, ms_nz, Int32.zero_add]; rfl
        refine lv_aload_n hx hb dX1_square_44 rfl (lv_at hl 1 rfl) ?_
        refine va_get (D := D) (ci := 1) (v := .ref sp) (C := RX1) (T := TX1) (N := 12) hx hb hts hin1 hown hK hP 0 rfl rfl 4 (by decide) f37 (fun _ h9 => h9) rfl dX1_square_45 ?_
        refine lv_iload_n hx hb dX1_square_48 rfl (lv_at hl 0 rfl) ?_
        refine lv_aload_n hx hb dX1_square_49 rfl (lv_at hl 1 rfl) ?_
        refine va_get (D := D) (ci := 1) (v := .ref li) (C := RX1) (T := TX1) (N := 12) hx hb hts hin1 hown hK hP 0 rfl rfl 11 (by decide) f59 (fun _ h9 => h9) rfl dX1_square_50 ?_
        refine rs_cI (As := [.int (nI i), .ref li]) (rest := []) (WR := [(o, .inr (1, [.int (nI K), .int (nI R), .int (nI C), .ref su, .ref sp, .ref ar, .ref ac, .ref av, .int (nI np), .ref vx, .ref py, .ref li])), (ar, .inl (cI, K, .inl pR)), (ac, .inl (cI, K, .inl pC)), (av, .inl (cI, K, .inl pV)), (vx, .inl (cI, S, .inl vX)), (py, .inl (cI, S, .inl pY)), (su, .inr (0, [.ref sa, .ref sb, .ref sc])), (sa, .inl (cI, S + 1, .inl f)), (sb, .inl (cI, K, .inl g)), (sc, .inl (cI, K, .inl w))]) ⟨hx, hb, hml, hown, hts⟩ hl.1 (c_putRow l D cI sp ta tb tc (S + 1) K f3 g3 w3 li S u3 i (ms_sc (ms_sq S M0) S i) (by omega) (by omega) (by omega) (by omega) (hs.1 i (Nat.le_refl _)) hs.2.1) (cwV 2 hts gX1_square_X0_putRow rfl rfl rfl (by decide +kernel) ⟨Nat.le_of_ble_eq_true rfl, Nat.le_of_ble_eq_true rfl⟩) hK hP hD hS hA [1, 2, 3, 4, 14] [0, 5, 6, 7, 8, 9, 10, 11, 12, 13] rfl rfl (by decide) (by decide) (by decide) rfl rfl rfl rfl (Nat.le_of_ble_eq_true rfl) dX1_square_53 (Nat.le_of_ble_eq_true rfl) (Nat.le_of_ble_eq_true rfl) (fun r u H locs hu hP hD hS => ?_)
        obtain ⟨f4, g4, w4⟩ := u
        have hP : va_P D vwCl [(o, .inr (1, [.int (nI K), .int (nI R), .int (nI C), .ref su, .ref sp, .ref ar, .ref ac, .ref av, .int (nI np), .ref vx, .ref py, .ref li])), (ar, .inl (cI, K, .inl pR)), (ac, .inl (cI, K, .inl pC)), (av, .inl (cI, K, .inl pV)), (vx, .inl (cI, S, .inl vX)), (py, .inl (cI, S, .inl pY)), (su, .inr (0, [.ref sa, .ref sb, .ref sc])), (sa, .inl (cI, S + 1, .inl f)), (sb, .inl (cI, K, .inl g)), (sc, .inl (cI, K, .inl w)), (sp, .inr (0, [.ref ta, .ref tb, .ref tc])), (ta, .inl (cI, S + 1, .inl f4)), (tb, .inl (cI, K, .inl g4)), (tc, .inl (cI, K, .inl w4)), (li, .inl (cI, S, .inl u3))] H := hP
        have hD : va_D A [(o, .inr (1, [.int (nI K), .int (nI R), .int (nI C), .ref su, .ref sp, .ref ar, .ref ac, .ref av, .int (nI np), .ref vx, .ref py, .ref li])), (ar, .inl (cI, K, .inl pR)), (ac, .inl (cI, K, .inl pC)), (av, .inl (cI, K, .inl pV)), (vx, .inl (cI, S, .inl vX)), (py, .inl (cI, S, .inl pY)), (su, .inr (0, [.ref sa, .ref sb, .ref sc])), (sa, .inl (cI, S + 1, .inl f)), (sb, .inl (cI, K, .inl g)), (sc, .inl (cI, K, .inl w)), (sp, .inr (0, [.ref ta, .ref tb, .ref tc])), (ta, .inl (cI, S + 1, .inl f4)), (tb, .inl (cI, K, .inl g4)), (tc, .inl (cI, K, .inl w4)), (li, .inl (cI, S, .inl u3))] := hD
        rcases hu with ⟨k1, rfl, k3, k4, k5⟩ | ⟨k1, rfl, k3⟩
        · refine rv_ifne_t (tgt := 61) hx hb dX1_square_56 (by decide) (by decide) ?_
          refine lv_iinc (v := nI (i + 1)) (lv' := [(1, .int (nI (i + 1))), (0, .ref o)]) hx hb dX1_square_61 hl (k := 0) rfl (rv_inc _) (by decide) rfl (fun ls hl => ?_)
          refine lv_goto (tgt := 16) hx hb dX1_square_64 (by decide) ?_
          exact ih16 (i + 1) f4 g4 w4 u3 _ _ _ (by omega) (ms_supstep hs hu3 k1 k3 k4 k5) (hP.sub [0, 6, 7, 8, 9, 10, 11, 12, 13, 1, 2, 3, 4, 5, 14] rfl) (hD.sub [0, 6, 7, 8, 9, 10, 11, 12, 13, 1, 2, 3, 4, 5, 14] (by decide) rfl) hS (lv_sub hl [0, 1] rfl)
        · refine rv_ifne_f (tgt := 61) hx hb dX1_square_56 (by decide) rfl ?_
          refine lv_iconst (v := (-1)) hx hb dX1_square_59 (by decide +kernel) ?_
          exact ret _ _ _ _ _ (((K, R, C, S, np), M0, P, X, Y), ((su, sa, sb, sc), (sp, ta, tb, tc), (f, g, w), (f4, g4, w4), (pR, pC, pV), (vX, pY, u3))) dX1_square_60 (rfl) (⟨(an_square_f hRC (ms_sc_over hi0 hu3 k1)).1, (an_square_f hRC (ms_sc_over hi0 hu3 k1)).2.symm, st_spare hr (by have k3 : f4 = f3 := k3; rw [k3]; exact st_sup0 hs)⟩) (hP.sub [0, 6, 7, 8, 9, 10, 11, 12, 13, 1, 2, 3, 4, 5, 14] rfl) (hD.sub [0, 6, 7, 8, 9, 10, 11, 12, 13, 1, 2, 3, 4, 5, 14] (by decide) rfl) hS
    exact L16 _ 0 f2 g2 w2 lI _ _ _ (Nat.zero_add _) (ms_sup0 hf2) (hP.sub [0, 1, 2, 3, 4, 5, 6, 7, 8, 9, 10, 11, 12, 13, 14] rfl) (hD.sub [0, 1, 2, 3, 4, 5, 6, 7, 8, 9, 10, 11, 12, 13, 14] (by decide) rfl) hS (lv_sub hl [0, 1] rfl)
  · refine lv_bipush (v := (-2)) hx hb dX1_square_11 (by decide +kernel) ?_
    exact ret _ _ _ _ _ (((K, R, C, S, np), M0, P, X, Y), ((su, sa, sb, sc), (sp, ta, tb, tc), (f, g, w), (f2, g2, w2), (pR, pC, pV), (vX, pY, lI))) dX1_square_13 (rfl) (⟨(an_square_n hRC).1, (an_square_n hRC).2.symm, hr⟩) (hP.sub [0, 1, 2, 3, 4, 5, 6, 7, 8, 9, 10, 11, 12, 13, 14] rfl) (hD.sub [0, 1, 2, 3, 4, 5, 6, 7, 8, 9, 10, 11, 12, 13, 14] (by decide) rfl) hS

set_option maxHeartbeats 4000000 in
set_option maxRecDepth 100000 in
theorem c_transpose (l : Launch) (D : va_G) (cI : ClassId) (o ar ac av vx py li : Nat) (a : st_A) (u : st_C) (hr : st_rc a u)  : MetI l yX1_transpose wsX1_transpose rm_2 D [(cI, .int)] [.ref o] (st_wC cI o ar ac av vx py li a u) (fun (r : Int32) (x : st_A × st_C) => r = an_turn a ∧ x.1 = up_turn a ∧ st_rc x.1 x.2) (fun x => st_wC cI o ar ac av vx py li x.1 x.2) 0 0 := by
  obtain ⟨⟨K, R, C, S, np⟩, M0, P, X, Y⟩ := a
  obtain ⟨⟨su, sa, sb, sc⟩, ⟨sp, ta, tb, tc⟩, ⟨f, g, w⟩, ⟨f2, g2, w2⟩, ⟨pR, pC, pV⟩, ⟨vX, pY, lI⟩⟩ := u
  have hr : st_RC K R C S np M0 P X Y f g w f2 pR pC pV vX pY := hr
  obtain ⟨⟨⟨b1, b2, b3, b4, b5, b6, b7, b8⟩, hM⟩, hsup, hf2, hpe, hps, hX, hY⟩ := id hr
  refine rs_I (cc := cX1_transpose) (maxL := 3) (rty := .boolean) (by decide) rfl (Nat.le_of_ble_eq_true rfl) ?_
  intro p e s m args below meth c Q A ls hx hb hml hown hts hP hK hD hS hA hl ret
  have f13 := hts (.fieldLink RX1 13 "RowSparse" "rows" "I") (by decide +kernel)
  have f17 := hts (.fieldLink RX1 17 "RowSparse" "cols" "I") (by decide +kernel)
  have f33 := hts (.fieldLink RX1 33 "RowSparse" "support" "LRowSparse$Support;") (by decide +kernel)
  have f37 := hts (.fieldLink RX1 37 "RowSparse" "spare" "LRowSparse$Support;") (by decide +kernel)
  have f50 := hts (.fieldLink RX1 50 "RowSparse" "pending" "I") (by decide +kernel)
  have f53 := hts (.fieldLink RX1 53 "RowSparse" "vector" "[I") (by decide +kernel)
  have f56 := hts (.fieldLink RX1 56 "RowSparse" "product" "[I") (by decide +kernel)
  have f59 := hts (.fieldLink RX1 59 "RowSparse" "line" "[I") (by decide +kernel)
  have hin1 : ∀ w ∈ u_ws RX1 TX1 12, w ∈ wsX1_transpose := by decide +kernel
  have hl : lv_has ls 3 [(0, .ref o)] := hl
  have hP : va_P D vwCl [(o, .inr (1, [.int (nI K), .int (nI R), .int (nI C), .ref su, .ref sp, .ref ar, .ref ac, .ref av, .int (nI np), .ref vx, .ref py, .ref li])), (su, .inr (0, [.ref sa, .ref sb, .ref sc])), (sa, .inl (cI, S + 1, .inl f)), (sb, .inl (cI, K, .inl g)), (sc, .inl (cI, K, .inl w)), (sp, .inr (0, [.ref ta, .ref tb, .ref tc])), (ta, .inl (cI, S + 1, .inl f2)), (tb, .inl (cI, K, .inl g2)), (tc, .inl (cI, K, .inl w2)), (ar, .inl (cI, K, .inl pR)), (ac, .inl (cI, K, .inl pC)), (av, .inl (cI, K, .inl pV)), (vx, .inl (cI, S, .inl vX)), (py, .inl (cI, S, .inl pY)), (li, .inl (cI, S, .inl lI))] s.heap := hP
  have hD : va_D A [(o, .inr (1, [.int (nI K), .int (nI R), .int (nI C), .ref su, .ref sp, .ref ar, .ref ac, .ref av, .int (nI np), .ref vx, .ref py, .ref li])), (su, .inr (0, [.ref sa, .ref sb, .ref sc])), (sa, .inl (cI, S + 1, .inl f)), (sb, .inl (cI, K, .inl g)), (sc, .inl (cI, K, .inl w)), (sp, .inr (0, [.ref ta, .ref tb, .ref tc])), (ta, .inl (cI, S + 1, .inl f2)), (tb, .inl (cI, K, .inl g2)), (tc, .inl (cI, K, .inl w2)), (ar, .inl (cI, K, .inl pR)), (ac, .inl (cI, K, .inl pC)), (av, .inl (cI, K, .inl pV)), (vx, .inl (cI, S, .inl vX)), (py, .inl (cI, S, .inl pY)), (li, .inl (cI, S, .inl lI))] := hD
  refine lv_aload_n hx hb dX1_transpose_0 rfl (lv_at hl 0 rfl) ?_
  refine va_get (D := D) (ci := 1) (v := .int (nI np)) (C := RX1) (T := TX1) (N := 12) hx hb hts hin1 hown hK hP 0 rfl rfl 8 (by decide) f50 (fun _ h9 => h9) rfl dX1_transpose_1 ?_
  refine lv_if_le (tgt := 9) hx hb dX1_transpose_4 (by decide) (fun h1 => ?_) (fun h1 => ?_)
  · have h0 : np = 0 := by
      rw [← ms_nz, nI_leI (by omega) (by omega)] at h1
      omega
    have htn := ms_turn b3 b4 hM
    refine lv_iconst (v := nI 0) hx hb dX1_transpose_9 (by decide +kernel) ?_
    refine lv_istore_n (lv' := [(1, .int (nI 0)), (0, .ref o)]) hx hb dX1_transpose_10 rfl hl (by decide) rfl (fun ls hl => ?_)
    have L11 : ∀ (k11 : Nat) (j : Nat) (f3 : Nat → Int32) (g3 : Nat → Int32) (w3 : Nat → Int32) (l1 : Nat → Int32) (H : Heap) (locs : List Loc) (ls : Array Slot), j + k11 = C → ms_Sup K S j (fun i j => M0 j i) f3 g3 w3 → va_P D vwCl [(o, .inr (1, [.int (nI K), .int (nI R), .int (nI C), .ref su, .ref sp, .ref ar, .ref ac, .ref av, .int (nI np), .ref vx, .ref py, .ref li])), (su, .inr (0, [.ref sa, .ref sb, .ref sc])), (sa, .inl (cI, S + 1, .inl f)), (sb, .inl (cI, K, .inl g)), (sc, .inl (cI, K, .inl w)), (sp, .inr (0, [.ref ta, .ref tb, .ref tc])), (ta, .inl (cI, S + 1, .inl f3)), (tb, .inl (cI, K, .inl g3)), (tc, .inl (cI, K, .inl w3)), (ar, .inl (cI, K, .inl pR)), (ac, .inl (cI, K, .inl pC)), (av, .inl (cI, K, .inl pV)), (vx, .inl (cI, S, .inl vX)), (py, .inl (cI, S, .inl pY)), (li, .inl (cI, S, .inl l1))] H → va_D A [(o, .inr (1, [.int (nI K), .int (nI R), .int (nI C), .ref su, .ref sp, .ref ar, .ref ac, .ref av, .int (nI np), .ref vx, .ref py, .ref li])), (su, .inr (0, [.ref sa, .ref sb, .ref sc])), (sa, .inl (cI, S + 1, .inl f)), (sb, .inl (cI, K, .inl g)), (sc, .inl (cI, K, .inl w)), (sp, .inr (0, [.ref ta, .ref tb, .ref tc])), (ta, .inl (cI, S + 1, .inl f3)), (tb, .inl (cI, K, .inl g3)), (tc, .inl (cI, K, .inl w3)), (ar, .inl (cI, K, .inl pR)), (ac, .inl (cI, K, .inl pC)), (av, .inl (cI, K, .inl pV)), (vx, .inl (cI, S, .inl vX)), (py, .inl (cI, S, .inl pY)), (li, .inl (cI, S, .inl l1))] → va_S A s.heap H locs → lv_has ls 3 [(1, .int (nI j)), (0, .ref o)] → W p l e rm_2 s m args below meth c H locs 0 0 Q (F0 m 11 ls []) := by
      intro k11
      induction k11 with
      | zero =>
        intro j f3 g3 w3 l1 H locs ls hk11 hs hP hD hS hl
        have hs : ms_Sup K S C (fun i j => M0 j i) f3 g3 w3 := by rw [show j = C by omega] at hs; exact hs
        refine lv_iload_n hx hb dX1_transpose_11 rfl (lv_at hl 0 rfl) ?_
        refine lv_aload_n hx hb dX1_transpose_12 rfl (lv_at hl 1 rfl) ?_
        refine va_get (D := D) (ci := 1) (v := .int (nI C)) (C := RX1) (T := TX1) (N := 12) hx hb hts hin1 hown hK hP 0 rfl rfl 2 (by decide) f17 (fun _ h9 => h9) rfl dX1_transpose_13 ?_
        refine rv_ge_t (tgt := 77) hx hb dX1_transpose_16 (by decide) (by omega) (by omega) ?_
        refine lv_aload_n hx hb dX1_transpose_77 rfl (lv_at hl 1 rfl) ?_
        refine rs_cV (As := []) (rest := []) (WR := [(su, .inr (0, [.ref sa, .ref sb, .ref sc])), (sa, .inl (cI, S + 1, .inl f)), (sb, .inl (cI, K, .inl g)), (sc, .inl (cI, K, .inl w)), (sp, .inr (0, [.ref ta, .ref tb, .ref tc])), (ta, .inl (cI, S + 1, .inl f3)), (tb, .inl (cI, K, .inl g3)), (tc, .inl (cI, K, .inl w3)), (ar, .inl (cI, K, .inl pR)), (ac, .inl (cI, K, .inl pC)), (av, .inl (cI, K, .inl pV)), (vx, .inl (cI, S, .inl vX)), (py, .inl (cI, S, .inl pY)), (li, .inl (cI, S, .inl l1))]) ⟨hx, hb, hml, hown, hts⟩ hl.1 (c_swapSupports l D cI o K R C su sp ar ac av vx py li np) (cwV 0 hts gX1_transpose_X1_swapSupports rfl rfl rfl (by decide +kernel) ⟨Nat.le_of_ble_eq_true rfl, Nat.le_of_ble_eq_true rfl⟩) hK hP hD hS hA [0] [1, 2, 3, 4, 5, 6, 7, 8, 9, 10, 11, 12, 13, 14] rfl rfl (by decide) (by decide) (by decide) rfl rfl rfl rfl (Nat.le_of_ble_eq_true rfl) dX1_transpose_78 (Nat.le_of_ble_eq_true rfl) (Nat.le_of_ble_eq_true rfl) (fun u H locs hu hP hD hS => ?_)
        have hP : va_P D vwCl [(su, .inr (0, [.ref sa, .ref sb, .ref sc])), (sa, .inl (cI, S + 1, .inl f)), (sb, .inl (cI, K, .inl g)), (sc, .inl (cI, K, .inl w)), (sp, .inr (0, [.ref ta, .ref tb, .ref tc])), (ta, .inl (cI, S + 1, .inl f3)), (tb, .inl (cI, K, .inl g3)), (tc, .inl (cI, K, .inl w3)), (ar, .inl (cI, K, .inl pR)), (ac, .inl (cI, K, .inl pC)), (av, .inl (cI, K, .inl pV)), (vx, .inl (cI, S, .inl vX)), (py, .inl (cI, S, .inl pY)), (li, .inl (cI, S, .inl l1)), (o, .inr (1, [.int (nI K), .int (nI R), .int (nI C), .ref sp, .ref su, .ref ar, .ref ac, .ref av, .int (nI np), .ref vx, .ref py, .ref li]))] H := hP
        have hD : va_D A [(su, .inr (0, [.ref sa, .ref sb, .ref sc])), (sa, .inl (cI, S + 1, .inl f)), (sb, .inl (cI, K, .inl g)), (sc, .inl (cI, K, .inl w)), (sp, .inr (0, [.ref ta, .ref tb, .ref tc])), (ta, .inl (cI, S + 1, .inl f3)), (tb, .inl (cI, K, .inl g3)), (tc, .inl (cI, K, .inl w3)), (ar, .inl (cI, K, .inl pR)), (ac, .inl (cI, K, .inl pC)), (av, .inl (cI, K, .inl pV)), (vx, .inl (cI, S, .inl vX)), (py, .inl (cI, S, .inl pY)), (li, .inl (cI, S, .inl l1)), (o, .inr (1, [.int (nI K), .int (nI R), .int (nI C), .ref sp, .ref su, .ref ar, .ref ac, .ref av, .int (nI np), .ref vx, .ref py, .ref li]))] := hD
        refine lv_aload_n hx hb dX1_transpose_81 rfl (lv_at hl 1 rfl) ?_
        refine va_get (D := D) (ci := 1) (v := .int (nI R)) (C := RX1) (T := TX1) (N := 12) hx hb hts hin1 hown hK hP 14 rfl rfl 1 (by decide) f13 (fun _ h9 => h9) rfl dX1_transpose_82 ?_
        refine lv_istore_n (lv' := [(1, .int (nI R)), (0, .ref o)]) hx hb dX1_transpose_85 rfl hl (by decide) rfl (fun ls hl => ?_)
        refine lv_aload_n hx hb dX1_transpose_86 rfl (lv_at hl 1 rfl) ?_
        refine lv_aload_n hx hb dX1_transpose_87 rfl (lv_at hl 1 rfl) ?_
        refine va_get (D := D) (ci := 1) (v := .int (nI C)) (C := RX1) (T := TX1) (N := 12) hx hb hts hin1 hown hK hP 14 rfl rfl 2 (by decide) f17 (fun _ h9 => h9) rfl dX1_transpose_88 ?_
        refine va_put (D := D) (ci := 1) (v := .int (nI C)) (ty := .int) (C := RX1) (T := TX1) (N := 12) hx hb hts hin1 tyX1 tyX1_ok nmX1 hown hK hP hD hS 14 rfl rfl 1 (by decide) f13 (fun _ h9 => h9) rfl (by decide +kernel) rfl rfl (Nat.le_of_ble_eq_true rfl) dX1_transpose_91 (fun H locs hP hD hS => ?_)
        have hP : va_P D vwCl [(su, .inr (0, [.ref sa, .ref sb, .ref sc])), (sa, .inl (cI, S + 1, .inl f)), (sb, .inl (cI, K, .inl g)), (sc, .inl (cI, K, .inl w)), (sp, .inr (0, [.ref ta, .ref tb, .ref tc])), (ta, .inl (cI, S + 1, .inl f3)), (tb, .inl (cI, K, .inl g3)), (tc, .inl (cI, K, .inl w3)), (ar, .inl (cI, K, .inl pR)), (ac, .inl (cI, K, .inl pC)), (av, .inl (cI, K, .inl pV)), (vx, .inl (cI, S, .inl vX)), (py, .inl (cI, S, .inl pY)), (li, .inl (cI, S, .inl l1)), (o, .inr (1, [.int (nI K), .int (nI C), .int (nI C), .ref sp, .ref su, .ref ar, .ref ac, .ref av, .int (nI np), .ref vx, .ref py, .ref li]))] H := hP
        have hD : va_D A [(su, .inr (0, [.ref sa, .ref sb, .ref sc])), (sa, .inl (cI, S + 1, .inl f)), (sb, .inl (cI, K, .inl g)), (sc, .inl (cI, K, .inl w)), (sp, .inr (0, [.ref ta, .ref tb, .ref tc])), (ta, .inl (cI, S + 1, .inl f3)), (tb, .inl (cI, K, .inl g3)), (tc, .inl (cI, K, .inl w3)), (ar, .inl (cI, K, .inl pR)), (ac, .inl (cI, K, .inl pC)), (av, .inl (cI, K, .inl pV)), (vx, .inl (cI, S, .inl vX)), (py, .inl (cI, S, .inl pY)), (li, .inl (cI, S, .inl l1)), (o, .inr (1, [.int (nI K), .int (nI C), .int (nI C), .ref sp, .ref su, .ref ar, .ref ac, .ref av, .int (nI np), .ref vx, .ref py, .ref li]))] := hD
        refine lv_aload_n hx hb dX1_transpose_94 rfl (lv_at hl 1 rfl) ?_
        refine lv_iload_n hx hb dX1_transpose_95 rfl (lv_at hl 0 rfl) ?_
        refine va_put (D := D) (ci := 1) (v := .int (nI R)) (ty := .int) (C := RX1) (T := TX1) (N := 12) hx hb hts hin1 tyX1 tyX1_ok nmX1 hown hK hP hD hS 14 rfl rfl 2 (by decide) f17 (fun _ h9 => h9) rfl (by decide +kernel) rfl rfl (Nat.le_of_ble_eq_true rfl) dX1_transpose_96 (fun H locs hP hD hS => ?_)
        have hP : va_P D vwCl [(su, .inr (0, [.ref sa, .ref sb, .ref sc])), (sa, .inl (cI, S + 1, .inl f)), (sb, .inl (cI, K, .inl g)), (sc, .inl (cI, K, .inl w)), (sp, .inr (0, [.ref ta, .ref tb, .ref tc])), (ta, .inl (cI, S + 1, .inl f3)), (tb, .inl (cI, K, .inl g3)), (tc, .inl (cI, K, .inl w3)), (ar, .inl (cI, K, .inl pR)), (ac, .inl (cI, K, .inl pC)), (av, .inl (cI, K, .inl pV)), (vx, .inl (cI, S, .inl vX)), (py, .inl (cI, S, .inl pY)), (li, .inl (cI, S, .inl l1)), (o, .inr (1, [.int (nI K), .int (nI C), .int (nI R), .ref sp, .ref su, .ref ar, .ref ac, .ref av, .int (nI np), .ref vx, .ref py, .ref li]))] H := hP
        have hD : va_D A [(su, .inr (0, [.ref sa, .ref sb, .ref sc])), (sa, .inl (cI, S + 1, .inl f)), (sb, .inl (cI, K, .inl g)), (sc, .inl (cI, K, .inl w)), (sp, .inr (0, [.ref ta, .ref tb, .ref tc])), (ta, .inl (cI, S + 1, .inl f3)), (tb, .inl (cI, K, .inl g3)), (tc, .inl (cI, K, .inl w3)), (ar, .inl (cI, K, .inl pR)), (ac, .inl (cI, K, .inl pC)), (av, .inl (cI, K, .inl pV)), (vx, .inl (cI, S, .inl vX)), (py, .inl (cI, S, .inl pY)), (li, .inl (cI, S, .inl l1)), (o, .inr (1, [.int (nI K), .int (nI C), .int (nI R), .ref sp, .ref su, .ref ar, .ref ac, .ref av, .int (nI np), .ref vx, .ref py, .ref li]))] := hD
        refine lv_aload_n hx hb dX1_transpose_99 rfl (lv_at hl 1 rfl) ?_
        refine va_get (D := D) (ci := 1) (v := .ref vx) (C := RX1) (T := TX1) (N := 12) hx hb hts hin1 hown hK hP 14 rfl rfl 9 (by decide) f53 (fun _ h9 => h9) rfl dX1_transpose_100 ?_
        refine lv_iconst (v := nI 0) hx hb dX1_transpose_103 (by decide +kernel) ?_
        refine rs_cVS (As := [.ref vx, .int (nI 0)]) (rest := []) (WR := [(su, .inr (0, [.ref sa, .ref sb, .ref sc])), (sa, .inl (cI, S + 1, .inl f)), (sb, .inl (cI, K, .inl g)), (sc, .inl (cI, K, .inl w)), (sp, .inr (0, [.ref ta, .ref tb, .ref tc])), (ta, .inl (cI, S + 1, .inl f3)), (tb, .inl (cI, K, .inl g3)), (tc, .inl (cI, K, .inl w3)), (ar, .inl (cI, K, .inl pR)), (ac, .inl (cI, K, .inl pC)), (av, .inl (cI, K, .inl pV)), (py, .inl (cI, S, .inl pY)), (li, .inl (cI, S, .inl l1)), (o, .inr (1, [.int (nI K), .int (nI C), .int (nI R), .ref sp, .ref su, .ref ar, .ref ac, .ref av, .int (nI np), .ref vx, .ref py, .ref li]))]) ⟨hx, hb, hml, hown, hts⟩ hl.1 (c_fill l D cI vx S vX (nI 0) (by omega)) (va_cwS 2 hts gX1_transpose_J7_fill_53178 rfl rfl rfl (by decide +kernel) ⟨Nat.le_of_ble_eq_true rfl, Nat.le_of_ble_eq_true rfl⟩) hK hP hD hS hA [11] [0, 1, 2, 3, 4, 5, 6, 7, 8, 9, 10, 12, 13, 14] rfl rfl (by decide) (by decide) (by decide) rfl rfl (Nat.le_of_ble_eq_true rfl) dX1_transpose_104 (Nat.le_of_ble_eq_true rfl) (Nat.le_of_ble_eq_true rfl) (fun u H locs hu hP hD hS => ?_)
        obtain ⟨v1, e9⟩ : ∃ z, z = u := ⟨_, rfl⟩
        subst e9
        have hv1 := hu
        have hP : va_P D vwCl [(su, .inr (0, [.ref sa, .ref sb, .ref sc])), (sa, .inl (cI, S + 1, .inl f)), (sb, .inl (cI, K, .inl g)), (sc, .inl (cI, K, .inl w)), (sp, .inr (0, [.ref ta, .ref tb, .ref tc])), (ta, .inl (cI, S + 1, .inl f3)), (tb, .inl (cI, K, .inl g3)), (tc, .inl (cI, K, .inl w3)), (ar, .inl (cI, K, .inl pR)), (ac, .inl (cI, K, .inl pC)), (av, .inl (cI, K, .inl pV)), (py, .inl (cI, S, .inl pY)), (li, .inl (cI, S, .inl l1)), (o, .inr (1, [.int (nI K), .int (nI C), .int (nI R), .ref sp, .ref su, .ref ar, .ref ac, .ref av, .int (nI np), .ref vx, .ref py, .ref li])), (vx, .inl (cI, S, .inl v1))] H := hP
        have hD : va_D A [(su, .inr (0, [.ref sa, .ref sb, .ref sc])), (sa, .inl (cI, S + 1, .inl f)), (sb, .inl (cI, K, .inl g)), (sc, .inl (cI, K, .inl w)), (sp, .inr (0, [.ref ta, .ref tb, .ref tc])), (ta, .inl (cI, S + 1, .inl f3)), (tb, .inl (cI, K, .inl g3)), (tc, .inl (cI, K, .inl w3)), (ar, .inl (cI, K, .inl pR)), (ac, .inl (cI, K, .inl pC)), (av, .inl (cI, K, .inl pV)), (py, .inl (cI, S, .inl pY)), (li, .inl (cI, S, .inl l1)), (o, .inr (1, [.int (nI K), .int (nI C), .int (nI R), .ref sp, .ref su, .ref ar, .ref ac, .ref av, .int (nI np), .ref vx, .ref py, .ref li])), (vx, .inl (cI, S, .inl v1))] := hD
        refine lv_aload_n hx hb dX1_transpose_107 rfl (lv_at hl 1 rfl) ?_
        refine va_get (D := D) (ci := 1) (v := .ref py) (C := RX1) (T := TX1) (N := 12) hx hb hts hin1 hown hK hP 13 rfl rfl 10 (by decide) f56 (fun _ h9 => h9) rfl dX1_transpose_108 ?_
        refine lv_iconst (v := nI 0) hx hb dX1_transpose_111 (by decide +kernel) ?_
        refine rs_cVS (As := [.ref py, .int (nI 0)]) (rest := []) (WR := [(su, .inr (0, [.ref sa, .ref sb, .ref sc])), (sa, .inl (cI, S + 1, .inl f)), (sb, .inl (cI, K, .inl g)), (sc, .inl (cI, K, .inl w)), (sp, .inr (0, [.ref ta, .ref tb, .ref tc])), (ta, .inl (cI, S + 1, .inl f3)), (tb, .inl (cI, K, .inl g3)), (tc, .inl (cI, K, .inl w3)), (ar, .inl (cI, K, .inl pR)), (ac, .inl (cI, K, .inl pC)), (av, .inl (cI, K, .inl pV)), (li, .inl (cI, S, .inl l1)), (o, .inr (1, [.int (nI K), .int (nI C), .int (nI R), .ref sp, .ref su, .ref ar, .ref ac, .ref av, .int (nI np), .ref vx, .ref py, .ref li])), (vx, .inl (cI, S, .inl v1))]) ⟨hx, hb, hml, hown, hts⟩ hl.1 (c_fill l D cI py S pY (nI 0) (by omega)) (va_cwS 2 hts gX1_transpose_J7_fill_53178 rfl rfl rfl (by decide +kernel) ⟨Nat.le_of_ble_eq_true rfl, Nat.le_of_ble_eq_true rfl⟩) hK hP hD hS hA [11] [0, 1, 2, 3, 4, 5, 6, 7, 8, 9, 10, 12, 13, 14] rfl rfl (by decide) (by decide) (by decide) rfl rfl (Nat.le_of_ble_eq_true rfl) dX1_transpose_112 (Nat.le_of_ble_eq_true rfl) (Nat.le_of_ble_eq_true rfl) (fun u H locs hu hP hD hS => ?_)
        obtain ⟨v2, e9⟩ : ∃ z, z = u := ⟨_, rfl⟩
        subst e9
        have hv2 := hu
        have hP : va_P D vwCl [(su, .inr (0, [.ref sa, .ref sb, .ref sc])), (sa, .inl (cI, S + 1, .inl f)), (sb, .inl (cI, K, .inl g)), (sc, .inl (cI, K, .inl w)), (sp, .inr (0, [.ref ta, .ref tb, .ref tc])), (ta, .inl (cI, S + 1, .inl f3)), (tb, .inl (cI, K, .inl g3)), (tc, .inl (cI, K, .inl w3)), (ar, .inl (cI, K, .inl pR)), (ac, .inl (cI, K, .inl pC)), (av, .inl (cI, K, .inl pV)), (li, .inl (cI, S, .inl l1)), (o, .inr (1, [.int (nI K), .int (nI C), .int (nI R), .ref sp, .ref su, .ref ar, .ref ac, .ref av, .int (nI np), .ref vx, .ref py, .ref li])), (vx, .inl (cI, S, .inl v1)), (py, .inl (cI, S, .inl v2))] H := hP
        have hD : va_D A [(su, .inr (0, [.ref sa, .ref sb, .ref sc])), (sa, .inl (cI, S + 1, .inl f)), (sb, .inl (cI, K, .inl g)), (sc, .inl (cI, K, .inl w)), (sp, .inr (0, [.ref ta, .ref tb, .ref tc])), (ta, .inl (cI, S + 1, .inl f3)), (tb, .inl (cI, K, .inl g3)), (tc, .inl (cI, K, .inl w3)), (ar, .inl (cI, K, .inl pR)), (ac, .inl (cI, K, .inl pC)), (av, .inl (cI, K, .inl pV)), (li, .inl (cI, S, .inl l1)), (o, .inr (1, [.int (nI K), .int (nI C), .int (nI R), .ref sp, .ref su, .ref ar, .ref ac, .ref av, .int (nI np), .ref vx, .ref py, .ref li])), (vx, .inl (cI, S, .inl v1)), (py, .inl (cI, S, .inl v2))] := hD
        refine lv_iconst (v := nI 1) hx hb dX1_transpose_115 (by decide +kernel) ?_
        exact ret _ _ _ _ _ (((K, C, R, S, np), (fun i j => M0 j i), P, (fun _ => 0), fun _ => 0), ((sp, ta, tb, tc), (su, sa, sb, sc), (f3, g3, w3), (f, g, w), (pR, pC, pV), (v1, v2, l1))) dX1_transpose_116 (rfl) (⟨(an_turn_t h0).1, (an_turn_t h0).2.symm, by subst h0; exact st_turn hr hs hv1 hv2⟩) (hP.sub [12, 4, 5, 6, 7, 0, 1, 2, 3, 8, 9, 10, 13, 14, 11] rfl) (hD.sub [12, 4, 5, 6, 7, 0, 1, 2, 3, 8, 9, 10, 13, 14, 11] (by decide) rfl) hS
      | succ k11 ih11 =>
        intro j f3 g3 w3 l1 H locs ls hk11 hs hP hD hS hl
        have hj0 : j < C := by omega
        refine lv_iload_n hx hb dX1_transpose_11 rfl (lv_at hl 0 rfl) ?_
        refine lv_aload_n hx hb dX1_transpose_12 rfl (lv_at hl 1 rfl) ?_
        refine va_get (D := D) (ci := 1) (v := .int (nI C)) (C := RX1) (T := TX1) (N := 12) hx hb hts hin1 hown hK hP 0 rfl rfl 2 (by decide) f17 (fun _ h9 => h9) rfl dX1_transpose_13 ?_
        refine rv_ge_f (tgt := 77) hx hb dX1_transpose_16 (by decide) (by omega) (by omega) ?_
        refine lv_aload_n hx hb dX1_transpose_19 rfl (lv_at hl 1 rfl) ?_
        refine va_get (D := D) (ci := 1) (v := .ref li) (C := RX1) (T := TX1) (N := 12) hx hb hts hin1 hown hK hP 0 rfl rfl 11 (by decide) f59 (fun _ h9 => h9) rfl dX1_transpose_20 ?_
        refine lv_iconst (v := nI 0) hx hb dX1_transpose_23 (by decide +kernel) ?_
        refine rs_cVS (As := [.ref li, .int (nI 0)]) (rest := []) (WR := [(o, .inr (1, [.int (nI K), .int (nI R), .int (nI C), .ref su, .ref sp, .ref ar, .ref ac, .ref av, .int (nI np), .ref vx, .ref py, .ref li])), (su, .inr (0, [.ref sa, .ref sb, .ref sc])), (sa, .inl (cI, S + 1, .inl f)), (sb, .inl (cI, K, .inl g)), (sc, .inl (cI, K, .inl w)), (sp, .inr (0, [.ref ta, .ref tb, .ref tc])), (ta, .inl (cI, S + 1, .inl f3)), (tb, .inl (cI, K, .inl g3)), (tc, .inl (cI, K, .inl w3)), (ar, .inl (cI, K, .inl pR)), (ac, .inl (cI, K, .inl pC)), (av, .inl (cI, K, .inl pV)), (vx, .inl (cI, S, .inl vX)), (py, .inl (cI, S, .inl pY))]) ⟨hx, hb, hml, hown, hts⟩ hl.1 (c_fill l D cI li S l1 (nI 0) (by omega)) (va_cwS 2 hts gX1_transpose_J7_fill_53178 rfl rfl rfl (by decide +kernel) ⟨Nat.le_of_ble_eq_true rfl, Nat.le_of_ble_eq_true rfl⟩) hK hP hD hS hA [14] [0, 1, 2, 3, 4, 5, 6, 7, 8, 9, 10, 11, 12, 13] rfl rfl (by decide) (by decide) (by decide) rfl rfl (Nat.le_of_ble_eq_true rfl) dX1_transpose_24 (Nat.le_of_ble_eq_true rfl) (Nat.le_of_ble_eq_true rfl) (fun u H locs hu hP hD hS => ?_)
        obtain ⟨u1, e9⟩ : ∃ z, z = u := ⟨_, rfl⟩
        subst e9
        have hu1 := hu
        have hP : va_P D vwCl [(o, .inr (1, [.int (nI K), .int (nI R), .int (nI C), .ref su, .ref sp, .ref ar, .ref ac, .ref av, .int (nI np), .ref vx, .ref py, .ref li])), (su, .inr (0, [.ref sa, .ref sb, .ref sc])), (sa, .inl (cI, S + 1, .inl f)), (sb, .inl (cI, K, .inl g)), (sc, .inl (cI, K, .inl w)), (sp, .inr (0, [.ref ta, .ref tb, .ref tc])), (ta, .inl (cI, S + 1, .inl f3)), (tb, .inl (cI, K, .inl g3)), (tc, .inl (cI, K, .inl w3)), (ar, .inl (cI, K, .inl pR)), (ac, .inl (cI, K, .inl pC)), (av, .inl (cI, K, .inl pV)), (vx, .inl (cI, S, .inl vX)), (py, .inl (cI, S, .inl pY)), (li, .inl (cI, S, .inl u1))] H := hP
        have hD : va_D A [(o, .inr (1, [.int (nI K), .int (nI R), .int (nI C), .ref su, .ref sp, .ref ar, .ref ac, .ref av, .int (nI np), .ref vx, .ref py, .ref li])), (su, .inr (0, [.ref sa, .ref sb, .ref sc])), (sa, .inl (cI, S + 1, .inl f)), (sb, .inl (cI, K, .inl g)), (sc, .inl (cI, K, .inl w)), (sp, .inr (0, [.ref ta, .ref tb, .ref tc])), (ta, .inl (cI, S + 1, .inl f3)), (tb, .inl (cI, K, .inl g3)), (tc, .inl (cI, K, .inl w3)), (ar, .inl (cI, K, .inl pR)), (ac, .inl (cI, K, .inl pC)), (av, .inl (cI, K, .inl pV)), (vx, .inl (cI, S, .inl vX)), (py, .inl (cI, S, .inl pY)), (li, .inl (cI, S, .inl u1))] := hD
        refine lv_iconst (v := nI 0) hx hb dX1_transpose_27 (by decide +kernel) ?_
        refine lv_istore_n (lv' := [(2, .int (nI 0)), (1, .int (nI j)), (0, .ref o)]) hx hb dX1_transpose_28 rfl hl (by decide) rfl (fun ls hl => ?_)
        have L29 : ∀ (k29 : Nat) (i : Nat) (l2 : Nat → Int32) (H : Heap) (locs : List Loc) (ls : Array Slot), i + k29 = R → (∀ t, t < i → l2 t = M0 t j) → (∀ t, i ≤ t → t < S → l2 t = 0) → va_P D vwCl [(o, .inr (1, [.int (nI K), .int (nI R), .int (nI C), .ref su, .ref sp, .ref ar, .ref ac, .ref av, .int (nI np), .ref vx, .ref py, .ref li])), (su, .inr (0, [.ref sa, .ref sb, .ref sc])), (sa, .inl (cI, S + 1, .inl f)), (sb, .inl (cI, K, .inl g)), (sc, .inl (cI, K, .inl w)), (sp, .inr (0, [.ref ta, .ref tb, .ref tc])), (ta, .inl (cI, S + 1, .inl f3)), (tb, .inl (cI, K, .inl g3)), (tc, .inl (cI, K, .inl w3)), (ar, .inl (cI, K, .inl pR)), (ac, .inl (cI, K, .inl pC)), (av, .inl (cI, K, .inl pV)), (vx, .inl (cI, S, .inl vX)), (py, .inl (cI, S, .inl pY)), (li, .inl (cI, S, .inl l2))] H → va_D A [(o, .inr (1, [.int (nI K), .int (nI R), .int (nI C), .ref su, .ref sp, .ref ar, .ref ac, .ref av, .int (nI np), .ref vx, .ref py, .ref li])), (su, .inr (0, [.ref sa, .ref sb, .ref sc])), (sa, .inl (cI, S + 1, .inl f)), (sb, .inl (cI, K, .inl g)), (sc, .inl (cI, K, .inl w)), (sp, .inr (0, [.ref ta, .ref tb, .ref tc])), (ta, .inl (cI, S + 1, .inl f3)), (tb, .inl (cI, K, .inl g3)), (tc, .inl (cI, K, .inl w3)), (ar, .inl (cI, K, .inl pR)), (ac, .inl (cI, K, .inl pC)), (av, .inl (cI, K, .inl pV)), (vx, .inl (cI, S, .inl vX)), (py, .inl (cI, S, .inl pY)), (li, .inl (cI, S, .inl l2))] → va_S A s.heap H locs → lv_has ls 3 [(2, .int (nI i)), (1, .int (nI j)), (0, .ref o)] → W p l e rm_2 s m args below meth c H locs 0 0 Q (F0 m 29 ls []) := by
          intro k29
          induction k29 with
          | zero =>
            intro i l2 H locs ls hk29 hl2 hl3 hP hD hS hl
            have hu3 : ∀ t, t < S → l2 t = (fun i j => M0 j i) j t := fun t ht => by
              rcases Nat.lt_or_ge t R with q | q
              · exact hl2 t (by omega)
              · rw [hl3 t (by omega) ht]; exact (hM t j (Or.inl q)).symm
            refine lv_iload_n hx hb dX1_transpose_29 rfl (lv_at hl 0 rfl) ?_
            refine lv_aload_n hx hb dX1_transpose_30 rfl (lv_at hl 2 rfl) ?_
            refine va_get (D := D) (ci := 1) (v := .int (nI R)) (C := RX1) (T := TX1) (N := 12) hx hb hts hin1 hown hK hP 0 rfl rfl 1 (by decide) f13 (fun _ h9 => h9) rfl dX1_transpose_31 ?_
            refine rv_ge_t (tgt := 58) hx hb dX1_transpose_34 (by decide) (by omega) (by omega) ?_
            refine lv_aload_n hx hb dX1_transpose_58 rfl (lv_at hl 2 rfl) ?_
            refine va_get (D := D) (ci := 1) (v := .ref sp) (C := RX1) (T := TX1) (N := 12) hx hb hts hin1 hown hK hP 0 rfl rfl 4 (by decide) f37 (fun _ h9 => h9) rfl dX1_transpose_59 ?_
            refine lv_iload_n hx hb dX1_transpose_62 rfl (lv_at hl 1 rfl) ?_
            refine lv_aload_n hx hb dX1_transpose_63 rfl (lv_at hl 2 rfl) ?_
            refine va_get (D := D) (ci := 1) (v := .ref li) (C := RX1) (T := TX1) (N := 12) hx hb hts hin1 hown hK hP 0 rfl rfl 11 (by decide) f59 (fun _ h9 => h9) rfl dX1_transpose_64 ?_
            refine rs_cI (As := [.int (nI j), .ref li]) (rest := []) (WR := [(o, .inr (1, [.int (nI K), .int (nI R), .int (nI C), .ref su, .ref sp, .ref ar, .ref ac, .ref av, .int (nI np), .ref vx, .ref py, .ref li])), (su, .inr (0, [.ref sa, .ref sb, .ref sc])), (sa, .inl (cI, S + 1, .inl f)), (sb, .inl (cI, K, .inl g)), (sc, .inl (cI, K, .inl w)), (ar, .inl (cI, K, .inl pR)), (ac, .inl (cI, K, .inl pC)), (av, .inl (cI, K, .inl pV)), (vx, .inl (cI, S, .inl vX)), (py, .inl (cI, S, .inl pY))]) ⟨hx, hb, hml, hown, hts⟩ hl.1 (c_putRow l D cI sp ta tb tc (S + 1) K f3 g3 w3 li S l2 j (ms_sc (fun i j => M0 j i) S j) (by omega) (by omega) (by omega) (by omega) (hs.1 j (Nat.le_refl _)) hs.2.1) (cwV 2 hts gX1_transpose_X0_putRow rfl rfl rfl (by decide +kernel) ⟨Nat.le_of_ble_eq_true rfl, Nat.le_of_ble_eq_true rfl⟩) hK hP hD hS hA [5, 6, 7, 8, 14] [0, 1, 2, 3, 4, 9, 10, 11, 12, 13] rfl rfl (by decide) (by decide) (by decide) rfl rfl rfl rfl (Nat.le_of_ble_eq_true rfl) dX1_transpose_67 (Nat.le_of_ble_eq_true rfl) (Nat.le_of_ble_eq_true rfl) (fun r u H locs hu hP hD hS => ?_)
            obtain ⟨f4, g4, w4⟩ := u
            have hP : va_P D vwCl [(o, .inr (1, [.int (nI K), .int (nI R), .int (nI C), .ref su, .ref sp, .ref ar, .ref ac, .ref av, .int (nI np), .ref vx, .ref py, .ref li])), (su, .inr (0, [.ref sa, .ref sb, .ref sc])), (sa, .inl (cI, S + 1, .inl f)), (sb, .inl (cI, K, .inl g)), (sc, .inl (cI, K, .inl w)), (ar, .inl (cI, K, .inl pR)), (ac, .inl (cI, K, .inl pC)), (av, .inl (cI, K, .inl pV)), (vx, .inl (cI, S, .inl vX)), (py, .inl (cI, S, .inl pY)), (sp, .inr (0, [.ref ta, .ref tb, .ref tc])), (ta, .inl (cI, S + 1, .inl f4)), (tb, .inl (cI, K, .inl g4)), (tc, .inl (cI, K, .inl w4)), (li, .inl (cI, S, .inl l2))] H := hP
            have hD : va_D A [(o, .inr (1, [.int (nI K), .int (nI R), .int (nI C), .ref su, .ref sp, .ref ar, .ref ac, .ref av, .int (nI np), .ref vx, .ref py, .ref li])), (su, .inr (0, [.ref sa, .ref sb, .ref sc])), (sa, .inl (cI, S + 1, .inl f)), (sb, .inl (cI, K, .inl g)), (sc, .inl (cI, K, .inl w)), (ar, .inl (cI, K, .inl pR)), (ac, .inl (cI, K, .inl pC)), (av, .inl (cI, K, .inl pV)), (vx, .inl (cI, S, .inl vX)), (py, .inl (cI, S, .inl pY)), (sp, .inr (0, [.ref ta, .ref tb, .ref tc])), (ta, .inl (cI, S + 1, .inl f4)), (tb, .inl (cI, K, .inl g4)), (tc, .inl (cI, K, .inl w4)), (li, .inl (cI, S, .inl l2))] := hD
            obtain ⟨k1, k2, k3, k4, k5⟩ := hu.resolve_right (fun q => ms_sc_over (R := C) (show j < C by omega) hu3 q.1 (by rw [htn]; exact hsup.2.1))
            refine lv_pop hx hb dX1_transpose_70 rfl ?_
            refine lv_iinc (v := nI (j + 1)) (lv' := [(1, .int (nI (j + 1))), (2, .int (nI i)), (0, .ref o)]) hx hb dX1_transpose_71 hl (k := 1) rfl (rv_inc _) (by decide) rfl (fun ls hl => ?_)
            refine lv_goto (tgt := 11) hx hb dX1_transpose_74 (by decide) ?_
            exact ih11 (j + 1) f4 g4 w4 l2 _ _ _ (by omega) (ms_supstep hs hu3 k1 k3 k4 k5) (hP.sub [0, 1, 2, 3, 4, 10, 11, 12, 13, 5, 6, 7, 8, 9, 14] rfl) (hD.sub [0, 1, 2, 3, 4, 10, 11, 12, 13, 5, 6, 7, 8, 9, 14] (by decide) rfl) hS (lv_sub hl [0, 2] rfl)
          | succ k29 ih29 =>
            intro i l2 H locs ls hk29 hl2 hl3 hP hD hS hl
            have hi0 : i < R := by omega
            obtain ⟨e0, e1, h01, h1k, e2⟩ := ms_Sq hsup hi0
            refine lv_iload_n hx hb dX1_transpose_29 rfl (lv_at hl 0 rfl) ?_
            refine lv_aload_n hx hb dX1_transpose_30 rfl (lv_at hl 2 rfl) ?_
            refine va_get (D := D) (ci := 1) (v := .int (nI R)) (C := RX1) (T := TX1) (N := 12) hx hb hts hin1 hown hK hP 0 rfl rfl 1 (by decide) f13 (fun _ h9 => h9) rfl dX1_transpose_31 ?_
            refine rv_ge_f (tgt := 58) hx hb dX1_transpose_34 (by decide) (by omega) (by omega) ?_
            refine lv_aload_n hx hb dX1_transpose_37 rfl (lv_at hl 2 rfl) ?_
            refine va_get (D := D) (ci := 1) (v := .ref li) (C := RX1) (T := TX1) (N := 12) hx hb hts hin1 hown hK hP 0 rfl rfl 11 (by decide) f59 (fun _ h9 => h9) rfl dX1_transpose_38 ?_
            refine lv_iload_n hx hb dX1_transpose_41 rfl (lv_at hl 0 rfl) ?_
            refine lv_aload_n hx hb dX1_transpose_42 rfl (lv_at hl 2 rfl) ?_
            refine va_get (D := D) (ci := 1) (v := .ref su) (C := RX1) (T := TX1) (N := 12) hx hb hts hin1 hown hK hP 0 rfl rfl 3 (by decide) f33 (fun _ h9 => h9) rfl dX1_transpose_43 ?_
            refine lv_iload_n hx hb dX1_transpose_46 rfl (lv_at hl 0 rfl) ?_
            refine lv_iload_n hx hb dX1_transpose_47 rfl (lv_at hl 1 rfl) ?_
            refine rs_cR (As := [.int (nI i), .int (nI j)]) (rest := [.int (nI i), .ref li]) ⟨hx, hb, hml, hown, hts⟩ hl.1 (c_entry l D cI su sa sb sc (S + 1) K f g w i (ms_sc M0 S i) (ms_sc M0 S (i + 1)) (nI j) (by omega) (by omega) (by omega) e0 e1 h01 h1k) (cwV 2 hts gX1_transpose_X0_entry rfl rfl rfl (by decide +kernel) ⟨Nat.le_of_ble_eq_true rfl, Nat.le_of_ble_eq_true rfl⟩) hK hP [1, 2, 3, 4] rfl rfl rfl rfl rfl (Nat.le_of_ble_eq_true rfl) dX1_transpose_48 (Nat.le_of_ble_eq_true rfl) (Nat.le_of_ble_eq_true rfl) (fun r hv => ?_)
            have hv : r = M0 i j := ms_entry hsup (by omega) hi0 (by omega) hv
            subst hv
            refine rv_iast hx hb hK hP hD hS 14 rfl rfl (by omega) (by omega) dX1_transpose_51 (fun H locs hP hD hS => ?_)
            have hP : va_P D vwCl [(o, .inr (1, [.int (nI K), .int (nI R), .int (nI C), .ref su, .ref sp, .ref ar, .ref ac, .ref av, .int (nI np), .ref vx, .ref py, .ref li])), (su, .inr (0, [.ref sa, .ref sb, .ref sc])), (sa, .inl (cI, S + 1, .inl f)), (sb, .inl (cI, K, .inl g)), (sc, .inl (cI, K, .inl w)), (sp, .inr (0, [.ref ta, .ref tb, .ref tc])), (ta, .inl (cI, S + 1, .inl f3)), (tb, .inl (cI, K, .inl g3)), (tc, .inl (cI, K, .inl w3)), (ar, .inl (cI, K, .inl pR)), (ac, .inl (cI, K, .inl pC)), (av, .inl (cI, K, .inl pV)), (vx, .inl (cI, S, .inl vX)), (py, .inl (cI, S, .inl pY)), (li, .inl (cI, S, .inl (upd l2 i (M0 i j))))] H := hP
            have hD : va_D A [(o, .inr (1, [.int (nI K), .int (nI R), .int (nI C), .ref su, .ref sp, .ref ar, .ref ac, .ref av, .int (nI np), .ref vx, .ref py, .ref li])), (su, .inr (0, [.ref sa, .ref sb, .ref sc])), (sa, .inl (cI, S + 1, .inl f)), (sb, .inl (cI, K, .inl g)), (sc, .inl (cI, K, .inl w)), (sp, .inr (0, [.ref ta, .ref tb, .ref tc])), (ta, .inl (cI, S + 1, .inl f3)), (tb, .inl (cI, K, .inl g3)), (tc, .inl (cI, K, .inl w3)), (ar, .inl (cI, K, .inl pR)), (ac, .inl (cI, K, .inl pC)), (av, .inl (cI, K, .inl pV)), (vx, .inl (cI, S, .inl vX)), (py, .inl (cI, S, .inl pY)), (li, .inl (cI, S, .inl (upd l2 i (M0 i j))))] := hD
            refine lv_iinc (v := nI (i + 1)) (lv' := [(2, .int (nI (i + 1))), (1, .int (nI j)), (0, .ref o)]) hx hb dX1_transpose_52 hl (k := 0) rfl (rv_inc _) (by decide) rfl (fun ls hl => ?_)
            refine lv_goto (tgt := 29) hx hb dX1_transpose_55 (by decide) ?_
            exact ih29 (i + 1) (upd l2 i (M0 i j)) _ _ _ (by omega) (ms_updstep (F := fun t => M0 t j) hl2) (fun t h1 h2 => by rw [pk_un (by omega)]; exact hl3 t (by omega) h2) (hP.sub [0, 1, 2, 3, 4, 5, 6, 7, 8, 9, 10, 11, 12, 13, 14] rfl) (hD.sub [0, 1, 2, 3, 4, 5, 6, 7, 8, 9, 10, 11, 12, 13, 14] (by decide) rfl) hS (lv_sub hl [0, 1, 2] rfl)
        exact L29 _ 0 u1 _ _ _ (Nat.zero_add _) (fun t ht => absurd ht (Nat.not_lt_zero t)) (fun t _ ht => (hu1 t ht).trans ms_nz) (hP.sub [0, 1, 2, 3, 4, 5, 6, 7, 8, 9, 10, 11, 12, 13, 14] rfl) (hD.sub [0, 1, 2, 3, 4, 5, 6, 7, 8, 9, 10, 11, 12, 13, 14] (by decide) rfl) hS (lv_sub hl [0, 1, 2] rfl)
    exact L11 _ 0 f2 g2 w2 lI _ _ _ (Nat.zero_add _) (ms_sup0 hf2) (hP.sub [0, 1, 2, 3, 4, 5, 6, 7, 8, 9, 10, 11, 12, 13, 14] rfl) (hD.sub [0, 1, 2, 3, 4, 5, 6, 7, 8, 9, 10, 11, 12, 13, 14] (by decide) rfl) hS (lv_sub hl [0, 1] rfl)
  · have h0 : ¬ np = 0 := fun q => h1 (by rw [q]; decide)
    refine lv_iconst (v := nI 0) hx hb dX1_transpose_7 (by decide +kernel) ?_
    exact ret _ _ _ _ _ (((K, R, C, S, np), M0, P, X, Y), ((su, sa, sb, sc), (sp, ta, tb, tc), (f, g, w), (f2, g2, w2), (pR, pC, pV), (vX, pY, lI))) dX1_transpose_8 (rfl) (⟨(an_turn_f h0).1, (an_turn_f h0).2.symm, hr⟩) (hP.sub [0, 1, 2, 3, 4, 5, 6, 7, 8, 9, 10, 11, 12, 13, 14] rfl) (hD.sub [0, 1, 2, 3, 4, 5, 6, 7, 8, 9, 10, 11, 12, 13, 14] (by decide) rfl) hS
end
section
/-! the reference's table -/
theorem ms_grid {O : Nat → Int32} {G : Nat → Nat → Int32} {i j C : Nat} {x : Int32} (hC : C ≤ 60) (hj : j < C) (h1 : ∀ a b, a < i → b < C → O (60 * a + b) = G a b) (h2 : ∀ b, b < j → O (60 * i + b) = G i b) (hx : x = G i j) : (∀ a b, a < i → b < C → upd O (60 * i + j) x (60 * a + b) = G a b) ∧ ∀ b, b < j + 1 → upd O (60 * i + j) x (60 * i + b) = G i b := by
  refine ⟨fun a b ha hb => ?_, fun b hb => ?_⟩
  · rw [pk_un (by omega)]
    exact h1 a b ha hb
  · by_cases e : b = j
    · subst e
      rw [pk_us, hx]
    · rw [pk_un (by omega)]
      exact h2 b (by omega)
theorem ms_gridrow {O : Nat → Int32} {G : Nat → Nat → Int32} {i j C : Nat} (hj : j = C) (h1 : ∀ a b, a < i → b < C → O (60 * a + b) = G a b) (h2 : ∀ b, b < j → O (60 * i + b) = G i b) : ∀ a b, a < i + 1 → b < C → O (60 * a + b) = G a b := by
  intro a b ha hb
  by_cases e : a = i
  · subst e
    exact h2 b (by omega)
  · exact h1 a b (by omega) hb
theorem ms_gridT {O : Nat → Int32} {G : Nat → Nat → Int32} {i j C : Nat} {x : Int32} (hi : i < 60) (hj : j < C) (h1 : ∀ a b, a < i → b < C → O (60 * b + a) = G a b) (h2 : ∀ b, b < j → O (60 * b + i) = G i b) (hx : x = G i j) : (∀ a b, a < i → b < C → upd O (60 * j + i) x (60 * b + a) = G a b) ∧ ∀ b, b < j + 1 → upd O (60 * j + i) x (60 * b + i) = G i b := by
  refine ⟨fun a b ha hb => ?_, fun b hb => ?_⟩
  · rw [pk_un (by omega)]
    exact h1 a b ha hb
  · by_cases e : b = j
    · subst e
      rw [pk_us, hx]
    · rw [pk_un (by omega)]
      exact h2 b (by omega)
theorem ms_gridTrow {O : Nat → Int32} {G : Nat → Nat → Int32} {i j C : Nat} (hj : j = C) (h1 : ∀ a b, a < i → b < C → O (60 * b + a) = G a b) (h2 : ∀ b, b < j → O (60 * b + i) = G i b) : ∀ a b, a < i + 1 → b < C → O (60 * b + a) = G a b := by
  intro a b ha hb
  by_cases e : a = i
  · subst e
    exact h2 b (by omega)
  · exact h1 a b (by omega) hb
theorem ms_sc60 {M : Nat → Nat → Int32} {C R : Nat} (hR : R ≤ 60) (hC : C ≤ 60) : ms_sc M C R ≤ 3600 := Nat.le_trans (ms_sc_le M C R) (Nat.mul_le_mul hR hC)
theorem ms_nI_m1 {x : Nat} (h : x < 2 ^ 31) : ¬ nI x = -1 := by
  rw [ms_eq, nI_toInt h, show (-1 : Int32).toInt = -1 by decide]
  omega
/-- the count of a table is the matrix's -/
theorem st_cnt {N : Nat → Nat → Int32} {T : Nat → Int32} {R C S u : Nat} (hC : C ≤ S) (hu : u ≤ R) (h0 : ∀ i j, R ≤ i ∨ C ≤ j → N i j = 0) (hT : ∀ i j, i < R → j < C → T (60 * i + j) = N i j) : ms_sc (fun i j => T (60 * i + j)) C u = ms_sc N S u := by
  rw [ms_sc_wide hC (fun i j hj => h0 i j (Or.inr hj)) u]
  exact ms_sc_congr (fun i j hi hj => hT i j (by omega) hj)
theorem st_madd {K R C S np i0 j0 : Nat} {M P : Nat → Nat → Int32} {X Y T E xX yY : Nat → Int32} {v : Int32} (h : st_RM K R C S np M P X Y T E xX yY) (hi : i0 < R) (hj : j0 < C) (hn : np < K) : st_RM K R C S (np + 1) M (fun a b => if nI a = nI i0 ∧ nI b = nI j0 then P a b + v else P a b) X Y T (upd E (60 * i0 + j0) (E (60 * i0 + j0) + v)) xX yY := by
  obtain ⟨⟨⟨w1, w2, w3, w4, w5, w6, w7, w8⟩, hM⟩, hT, hE, h0, hX, hY⟩ := h
  refine ⟨⟨⟨w1, w2, w3, w4, w5, w6, w7, hn⟩, hM⟩, hT, fun a b ha hb => ?_, fun q => absurd q (Nat.succ_ne_zero np), hX, hY⟩
  show _ = if nI a = nI i0 ∧ nI b = nI j0 then P a b + v else P a b
  by_cases c : a = i0 ∧ b = j0
  · obtain ⟨c1, c2⟩ := c
    subst c1; subst c2
    rw [pk_us, if_pos ⟨rfl, rfl⟩, hE a b ha hb]
  · have c2 : ¬ (nI a = nI i0 ∧ nI b = nI j0) := fun q => c ⟨(nI_eq (by omega) (by omega)).mp q.1, (nI_eq (by omega) (by omega)).mp q.2⟩
    rw [if_neg c2, pk_un (fun q => c (by omega)), hE a b ha hb]
theorem st_mbuild {K R C S np : Nat} {M P : Nat → Nat → Int32} {X Y T E xX yY O E1 : Nat → Int32} (h : st_RM K R C S np M P X Y T E xX yY) (hO : ∀ a b, a < R → b < C → O (60 * a + b) = ms_pl R C M P a b) (hE1 : ∀ t, t < 3600 → E1 t = nI 0) : st_RM K R C S 0 (ms_pl R C M P) (fun _ _ => 0) X Y O E1 xX yY := by
  obtain ⟨⟨⟨w1, w2, w3, w4, w5, w6, w7, w8⟩, hM⟩, hT, hE, h0, hX, hY⟩ := h
  exact ⟨⟨⟨w1, w2, w3, w4, w5, w6, w7, Nat.zero_le _⟩, st_pl0⟩, hO, fun a b ha hb => (hE1 _ (by omega)).trans ms_nz, fun _ _ _ _ _ => rfl, hX, hY⟩
theorem st_msquare {K R C S np : Nat} {M P : Nat → Nat → Int32} {X Y T E xX yY O : Nat → Int32} (h : st_RM K R C S np M P X Y T E xX yY) (hO : ∀ a b, a < R → b < C → O (60 * a + b) = ms_sq S M a b) : st_RM K R C S np (ms_sq S M) P X Y O E xX yY := by
  obtain ⟨⟨hw, hM⟩, hT, hE, h0, hX, hY⟩ := h
  refine ⟨⟨hw, fun i j hij => ms_sm_zero (fun t ht => ?_)⟩, hO, hE, h0, hX, hY⟩
  rcases hij with q | q
  · rw [hM i t (Or.inl q), Int32.zero_mul]
  · rw [hM t j (Or.inr q), Int32.mul_zero]
theorem st_sqwide {R C S i j : Nat} {M : Nat → Nat → Int32} (hC : C ≤ S) (hM : ∀ i j, R ≤ i ∨ C ≤ j → M i j = 0) : ms_sm (fun k => M i k * M k j) C = ms_sq S M i j := by
  have e := ms_sm_wide (F := fun k => M i k * M k j) (a := C) (S - C) (fun t ht => by rw [hM i t (Or.inr ht), Int32.zero_mul])
  rw [show C + (S - C) = S by omega] at e
  exact e.symm
theorem st_sq0 {R C S : Nat} {M : Nat → Nat → Int32} (hM : ∀ i j, R ≤ i ∨ C ≤ j → M i j = 0) : ∀ i j, R ≤ i ∨ C ≤ j → ms_sq S M i j = 0 := by
  intro i j hij
  refine ms_sm_zero (fun t ht => ?_)
  rcases hij with q | q
  · rw [hM i t (Or.inl q), Int32.zero_mul]
  · rw [hM t j (Or.inr q), Int32.mul_zero]
theorem st_mturn {K R C S : Nat} {M P : Nat → Nat → Int32} {X Y T E xX yY O x1 y1 : Nat → Int32} (h : st_RM K R C S 0 M P X Y T E xX yY) (hO : ∀ a b, a < R → b < C → O (60 * b + a) = M a b) (hx : ∀ t, t < 60 → x1 t = nI 0) (hy : ∀ t, t < 60 → y1 t = nI 0) : st_RM K C R S 0 (fun i j => M j i) P (fun _ => 0) (fun _ => 0) O E x1 y1 := by
  obtain ⟨⟨⟨w1, w2, w3, w4, w5, w6, w7, w8⟩, hM⟩, hT, hE, h0, hX, hY⟩ := h
  exact ⟨⟨⟨w2, w1, w4, w3, w5, w6, w7, w8⟩, fun i j q => hM j i q.symm⟩, fun i j hi hj => hO j i hj hi, hE, h0, fun j hj => (hx j (by omega)).trans ms_nz, fun i hi => (hy i (by omega)).trans ms_nz⟩
theorem st_msetx {K R C S np j0 : Nat} {M P : Nat → Nat → Int32} {X Y T E xX yY : Nat → Int32} {v : Int32} (h : st_RM K R C S np M P X Y T E xX yY) : st_RM K R C S np M P (upd X j0 v) Y T E (upd xX j0 v) yY := by
  obtain ⟨hw, hT, hE, h0, hX, hY⟩ := h
  refine ⟨hw, hT, hE, h0, fun j hj => ?_, hY⟩
  by_cases c : j = j0
  · subst c
    rw [pk_us, pk_us]
  · rw [pk_un c, pk_un c]
    exact hX j hj
theorem st_mmul {K R C S np : Nat} {M P : Nat → Nat → Int32} {X Y T E xX yY y1 : Nat → Int32} (h : st_RM K R C S np M P X Y T E xX yY) (hy : ∀ i, i < R → y1 i = ms_sm (fun j => M i j * X j) C) : st_RM K R C S np M P X (fun i => ms_sm (fun j => M i j * X j) C) T E xX y1 := ⟨h.1, h.2.1, h.2.2.1, h.2.2.2.1, h.2.2.2.2.1, hy⟩
theorem st_rowend {R C S i j : Nat} {M : Nat → Nat → Int32} (hC : C ≤ S) (hj : j = C) (hM : ∀ i j, R ≤ i ∨ C ≤ j → M i j = 0) : ms_sc M S i + ms_rc (M i) j = ms_sc M S (i + 1) := by
  subst hj
  have e := ms_rc_wide (p := M i) (a := j) (S - j) (fun t ht => hM i t (Or.inr ht))
  rw [show j + (S - j) = S by omega] at e
  rw [ms_sc, e]
theorem st_notany {k : Int32} {q : Nat} (hq : q < 2 ^ 31) (h : ∀ t, t < q → ¬ k = nI t) : k < 0 ∨ nI q ≤ k := by
  rcases pk_ix k hq with c | c | ⟨j, c1, c2⟩
  · exact Or.inl c
  · exact Or.inr c
  · exact absurd c2 (h j c1)
section RSD
variable {p : Program} {l : Launch} {e : Env} {R : Room} {s : State} {m : MethodId} {args : Array Value} {below : List Frame} {meth : Method} {c : Code} {H : Heap} {locs : List Loc} {cells slots : Nat} {Q : State → Prop}
variable {cc : ByteArray} {pc : Nat} {ls : Array Slot} {rest : List Value}
theorem rv_icne_t (hx : p.tables.exec = Jvm.exec) (hb : c.code = cc) {x y : Int32} {off : Int} {tgt : Nat} (hdg : decode cc pc = .ok (.if_icmp .ne off, 3)) (ht : (pc : Int) + off = (tgt : Int)) (h : ¬ x = y) (kt : W p l e R s m args below meth c H locs cells slots Q (F0 m tgt ls rest)) : W p l e R s m args below meth c H locs cells slots Q (F0 m pc ls (.int y :: .int x :: rest)) := lv_icmp_ne hx hb hdg ht (fun _ => kt) (fun q => absurd q h)
theorem rv_icne_f (hx : p.tables.exec = Jvm.exec) (hb : c.code = cc) {x y : Int32} {off : Int} {tgt : Nat} (hdg : decode cc pc = .ok (.if_icmp .ne off, 3)) (ht : (pc : Int) + off = (tgt : Int)) (h : x = y) (kf : W p l e R s m args below meth c H locs cells slots Q (F0 m (pc + 3) ls rest)) : W p l e R s m args below meth c H locs cells slots Q (F0 m pc ls (.int y :: .int x :: rest)) := lv_icmp_ne hx hb hdg ht (fun q => absurd h q) (fun _ => kf)
end RSD
end
section
set_option maxHeartbeats 4000000 in
set_option maxRecDepth 100000 in
theorem d_becomes (l : Launch) (D : va_G) (cI : ClassId) (o K R C np ta ot mo xx yy : Nat) (O : Nat → Int32) (hR : R ≤ 60) (hC : C ≤ 60) (hK0 : K ≤ 1000) : MetI l yX2_becomes wsX2_becomes rm_1 D [(cI, .int)] [.ref o] [(o, .inr (2, [.int (nI K), .int (nI R), .int (nI C), .int (nI np), .ref ta, .ref ot, .ref mo, .ref xx, .ref yy])), (ot, .inl (cI, 3600, .inl O))] (fun (r : Int32) (u : Nat × Nat) => (ms_sc (fun i j => O (60 * i + j)) C R ≤ K ∧ r = nI (ms_sc (fun i j => O (60 * i + j)) C R) ∧ u = (ot, ta)) ∨ (K < ms_sc (fun i j => O (60 * i + j)) C R ∧ r = -1 ∧ u = (ta, ot))) (fun u => [(o, .inr (2, [.int (nI K), .int (nI R), .int (nI C), .int (nI np), .ref u.1, .ref u.2, .ref mo, .ref xx, .ref yy])), (ot, .inl (cI, 3600, .inl O))]) 0 0 := by
  refine rs_I (cc := cX2_becomes) (maxL := 2) (rty := .int) (by decide) rfl (Nat.le_of_ble_eq_true rfl) ?_
  intro p e s m args below meth c Q A ls hx hb hml hown hts hP hK hD hS hA hl ret
  have f13 := hts (.fieldLink RX2 13 "RowSparseModel" "other" "[I") (by decide +kernel)
  have f29 := hts (.fieldLink RX2 29 "RowSparseModel" "rows" "I") (by decide +kernel)
  have f36 := hts (.fieldLink RX2 36 "RowSparseModel" "cap" "I") (by decide +kernel)
  have hin2 : ∀ w ∈ u_ws RX2 TX2 9, w ∈ wsX2_becomes := by decide +kernel
  have hl : lv_has ls 2 [(0, .ref o)] := hl
  have hP : va_P D vwCl [(o, .inr (2, [.int (nI K), .int (nI R), .int (nI C), .int (nI np), .ref ta, .ref ot, .ref mo, .ref xx, .ref yy])), (ot, .inl (cI, 3600, .inl O))] s.heap := hP
  have hD : va_D A [(o, .inr (2, [.int (nI K), .int (nI R), .int (nI C), .int (nI np), .ref ta, .ref ot, .ref mo, .ref xx, .ref yy])), (ot, .inl (cI, 3600, .inl O))] := hD
  have hsc : ms_sc (fun i j => O (60 * i + j)) C R ≤ 3600 := ms_sc60 hR hC
  refine lv_aload_n hx hb dX2_becomes_0 rfl (lv_at hl 0 rfl) ?_
  refine lv_aload_n hx hb dX2_becomes_1 rfl (lv_at hl 0 rfl) ?_
  refine va_get (D := D) (ci := 2) (v := .ref ot) (C := RX2) (T := TX2) (N := 9) hx hb hts hin2 hown hK hP 0 rfl rfl 5 (by decide) f13 (fun _ h9 => h9) rfl dX2_becomes_2 ?_
  refine lv_aload_n hx hb dX2_becomes_5 rfl (lv_at hl 0 rfl) ?_
  refine va_get (D := D) (ci := 2) (v := .int (nI R)) (C := RX2) (T := TX2) (N := 9) hx hb hts hin2 hown hK hP 0 rfl rfl 1 (by decide) f29 (fun _ h9 => h9) rfl dX2_becomes_6 ?_
  refine rs_cR (As := [.ref ot, .int (nI R)]) (rest := []) ⟨hx, hb, hml, hown, hts⟩ hl.1 (c_many l D cI o R C ot R (.int (nI K)) (.int (nI np)) (.ref ta) (.ref ot) (.ref mo) (.ref xx) (.ref yy) O (by omega) (by omega)) (cwV 2 hts gX2_becomes_X2_many rfl rfl rfl (by decide +kernel) ⟨Nat.le_of_ble_eq_true rfl, Nat.le_of_ble_eq_true rfl⟩) hK hP [0, 1] rfl rfl rfl rfl rfl (Nat.le_of_ble_eq_true rfl) dX2_becomes_9 (Nat.le_of_ble_eq_true rfl) (Nat.le_of_ble_eq_true rfl) (fun r hv => ?_)
  subst hv
  refine lv_istore_n (lv' := [(1, .int (nI (ms_sc (fun i j => O (60 * i + j)) C R))), (0, .ref o)]) hx hb dX2_becomes_12 rfl hl (by decide) rfl (fun ls hl => ?_)
  refine lv_iload_n hx hb dX2_becomes_13 rfl (lv_at hl 0 rfl) ?_
  refine lv_aload_n hx hb dX2_becomes_14 rfl (lv_at hl 1 rfl) ?_
  refine va_get (D := D) (ci := 2) (v := .int (nI K)) (C := RX2) (T := TX2) (N := 9) hx hb hts hin2 hown hK hP 0 rfl rfl 0 (by decide) f36 (fun _ h9 => h9) rfl dX2_becomes_15 ?_
  refine rv_le (tgt := 23) hx hb dX2_becomes_18 (by decide) (by omega) (by omega) (fun h1 => ?_) (fun h1 => ?_)
  · refine lv_aload_n hx hb dX2_becomes_23 rfl (lv_at hl 1 rfl) ?_
    refine rs_cV (As := []) (rest := []) (WR := [(ot, .inl (cI, 3600, .inl O))]) ⟨hx, hb, hml, hown, hts⟩ hl.1 (c_turns l D cI o K R C ta ot mo xx yy np) (cwV 0 hts gX2_becomes_X2_turns rfl rfl rfl (by decide +kernel) ⟨Nat.le_of_ble_eq_true rfl, Nat.le_of_ble_eq_true rfl⟩) hK hP hD hS hA [0] [1] rfl rfl (by decide) (by decide) (by decide) rfl rfl rfl rfl (Nat.le_of_ble_eq_true rfl) dX2_becomes_24 (Nat.le_of_ble_eq_true rfl) (Nat.le_of_ble_eq_true rfl) (fun u H locs hu hP hD hS => ?_)
    have hP : va_P D vwCl [(ot, .inl (cI, 3600, .inl O)), (o, .inr (2, [.int (nI K), .int (nI R), .int (nI C), .int (nI np), .ref ot, .ref ta, .ref mo, .ref xx, .ref yy]))] H := hP
    have hD : va_D A [(ot, .inl (cI, 3600, .inl O)), (o, .inr (2, [.int (nI K), .int (nI R), .int (nI C), .int (nI np), .ref ot, .ref ta, .ref mo, .ref xx, .ref yy]))] := hD
    refine lv_iload_n hx hb dX2_becomes_27 rfl (lv_at hl 0 rfl) ?_
    exact ret _ _ _ _ _ (ot, ta) dX2_becomes_28 (rfl) (Or.inl ⟨h1, rfl, rfl⟩) (hP.sub [1, 0] rfl) (hD.sub [1, 0] (by decide) rfl) hS
  · refine lv_iconst (v := (-1)) hx hb dX2_becomes_21 (by decide +kernel) ?_
    exact ret _ _ _ _ _ (ta, ot) dX2_becomes_22 (rfl) (Or.inr ⟨h1, rfl, rfl⟩) (hP.sub [0, 1] rfl) (hD.sub [0, 1] (by decide) rfl) hS

set_option maxHeartbeats 4000000 in
set_option maxRecDepth 100000 in
theorem d_nnz (l : Launch) (D : va_G) (cI : ClassId) (o mo xx yy : Nat) (a : st_A) (u : st_M) (hr : st_rm a u)  : MetR l yX2_nnz wsX2_nnz rm_1 D [(cI, .int)] [.ref o] (st_wM cI o mo xx yy a u) (fun r => r = an_nnz a) := by
  obtain ⟨⟨K, R, C, S, np⟩, M0, P, X, Y⟩ := a
  obtain ⟨⟨ta, ot⟩, T, O, E, xX, yY⟩ := u
  have hr : st_RM K R C S np M0 P X Y T E xX yY := hr
  obtain ⟨⟨⟨b1, b2, b3, b4, b5, b6, b7, b8⟩, hM⟩, hT, hE, hz0, hX, hY⟩ := id hr
  refine rs_R (cc := cX2_nnz) (maxL := 1) (rty := .int) (by decide) rfl (Nat.le_of_ble_eq_true rfl) ?_
  intro p e s m args below meth c Q ls hx hb hml hown hts hP hK hl ret
  have f7 := hts (.fieldLink RX2 7 "RowSparseModel" "table" "[I") (by decide +kernel)
  have f29 := hts (.fieldLink RX2 29 "RowSparseModel" "rows" "I") (by decide +kernel)
  have hin2 : ∀ w ∈ u_ws RX2 TX2 9, w ∈ wsX2_nnz := by decide +kernel
  have hl : lv_has ls 1 [(0, .ref o)] := hl
  have hP : va_P D vwCl [(o, .inr (2, [.int (nI K), .int (nI R), .int (nI C), .int (nI np), .ref ta, .ref ot, .ref mo, .ref xx, .ref yy])), (ta, .inl (cI, 3600, .inl T)), (ot, .inl (cI, 3600, .inl O)), (mo, .inl (cI, 3600, .inl E)), (xx, .inl (cI, 60, .inl xX)), (yy, .inl (cI, 60, .inl yY))] s.heap := hP
  refine lv_aload_n hx hb dX2_nnz_0 rfl (lv_at hl 0 rfl) ?_
  refine lv_aload_n hx hb dX2_nnz_1 rfl (lv_at hl 0 rfl) ?_
  refine va_get (D := D) (ci := 2) (v := .ref ta) (C := RX2) (T := TX2) (N := 9) hx hb hts hin2 hown hK hP 0 rfl rfl 4 (by decide) f7 (fun _ h9 => h9) rfl dX2_nnz_2 ?_
  refine lv_aload_n hx hb dX2_nnz_5 rfl (lv_at hl 0 rfl) ?_
  refine va_get (D := D) (ci := 2) (v := .int (nI R)) (C := RX2) (T := TX2) (N := 9) hx hb hts hin2 hown hK hP 0 rfl rfl 1 (by decide) f29 (fun _ h9 => h9) rfl dX2_nnz_6 ?_
  refine rs_cR (As := [.ref ta, .int (nI R)]) (rest := []) ⟨hx, hb, hml, hown, hts⟩ hl.1 (c_many l D cI o R C ta R (.int (nI K)) (.int (nI np)) (.ref ta) (.ref ot) (.ref mo) (.ref xx) (.ref yy) T (by omega) (by omega)) (cwV 2 hts gX2_nnz_X2_many rfl rfl rfl (by decide +kernel) ⟨Nat.le_of_ble_eq_true rfl, Nat.le_of_ble_eq_true rfl⟩) hK hP [0, 1] rfl rfl rfl rfl rfl (Nat.le_of_ble_eq_true rfl) dX2_nnz_9 (Nat.le_of_ble_eq_true rfl) (Nat.le_of_ble_eq_true rfl) (fun r hv => ?_)
  subst hv
  exact ret _ _ _ dX2_nnz_12 (rfl) (congrArg nI (st_cnt b4 (Nat.le_refl _) hM hT))

set_option maxHeartbeats 4000000 in
set_option maxRecDepth 100000 in
theorem d_at (l : Launch) (D : va_G) (cI : ClassId) (o mo xx yy : Nat) (a : st_A) (u : st_M) (hr : st_rm a u) (i j : Int32) : MetR l yX2_at wsX2_at rm_2 D [(cI, .int)] [.ref o, .int i, .int j] (st_wM cI o mo xx yy a u) (fun r => r = an_at a i j) := by
  obtain ⟨⟨K, R, C, S, np⟩, M0, P, X, Y⟩ := a
  obtain ⟨⟨ta, ot⟩, T, O, E, xX, yY⟩ := u
  have hr : st_RM K R C S np M0 P X Y T E xX yY := hr
  obtain ⟨⟨⟨b1, b2, b3, b4, b5, b6, b7, b8⟩, hM⟩, hT, hE, hz0, hX, hY⟩ := id hr
  refine rs_R (cc := cX2_at) (maxL := 3) (rty := .int) (by decide) rfl (Nat.le_of_ble_eq_true rfl) ?_
  intro p e s m args below meth c Q ls hx hb hml hown hts hP hK hl ret
  have f7 := hts (.fieldLink RX2 7 "RowSparseModel" "table" "[I") (by decide +kernel)
  have hin2 : ∀ w ∈ u_ws RX2 TX2 9, w ∈ wsX2_at := by decide +kernel
  have hl : lv_has ls 3 [(0, .ref o), (1, .int i), (2, .int j)] := hl
  have hP : va_P D vwCl [(o, .inr (2, [.int (nI K), .int (nI R), .int (nI C), .int (nI np), .ref ta, .ref ot, .ref mo, .ref xx, .ref yy])), (ta, .inl (cI, 3600, .inl T)), (ot, .inl (cI, 3600, .inl O)), (mo, .inl (cI, 3600, .inl E)), (xx, .inl (cI, 60, .inl xX)), (yy, .inl (cI, 60, .inl yY))] s.heap := hP
  refine lv_aload_n hx hb dX2_at_0 rfl (lv_at hl 0 rfl) ?_
  refine lv_iload_n hx hb dX2_at_1 rfl (lv_at hl 1 rfl) ?_
  refine lv_iload_n hx hb dX2_at_2 rfl (lv_at hl 2 rfl) ?_
  refine rs_cR (As := [.int i, .int j]) (rest := []) ⟨hx, hb, hml, hown, hts⟩ hl.1 (c_isPlace l D cI o R C (.int (nI K)) (.int (nI np)) (.ref ta) (.ref ot) (.ref mo) (.ref xx) (.ref yy) i j b1 b2 (by omega) (by omega)) (cwV 2 hts gX2_at_X2_isPlace rfl rfl rfl (by decide +kernel) ⟨Nat.le_of_ble_eq_true rfl, Nat.le_of_ble_eq_true rfl⟩) hK hP [0] rfl rfl rfl rfl rfl (Nat.le_of_ble_eq_true rfl) dX2_at_3 (Nat.le_of_ble_eq_true rfl) (Nat.le_of_ble_eq_true rfl) (fun r hv => ?_)
  subst hv
  refine lv_if_eq (tgt := 23) hx hb dX2_at_6 (by decide) (fun h1 => ?_) (fun h1 => ?_)
  · have h1 := ms_bI_0.mp h1
    refine lv_iconst (v := nI 0) hx hb dX2_at_23 (by decide +kernel) ?_
    exact ret _ _ _ dX2_at_24 (rfl) (an_at_f h1)
  · have h1 := ms_bI_n.mp h1
    have h1 := Bool.and_eq_true_iff.mp h1
    obtain ⟨i0, hi0, rfl⟩ := ms_in_of h1.1 (by omega)
    obtain ⟨j0, hj0, rfl⟩ := ms_in_of h1.2 (by omega)
    refine lv_aload_n hx hb dX2_at_9 rfl (lv_at hl 0 rfl) ?_
    refine va_get (D := D) (ci := 2) (v := .ref ta) (C := RX2) (T := TX2) (N := 9) hx hb hts hin2 hown hK hP 0 rfl rfl 4 (by decide) f7 (fun _ h9 => h9) rfl dX2_at_10 ?_
    refine lv_bipush (v := nI 60) hx hb dX2_at_13 (by decide +kernel) ?_
    refine lv_iload_n hx hb dX2_at_15 rfl (lv_at hl 1 rfl) ?_
    refine rv_imul hx hb dX2_at_16 ?_
    refine lv_iload_n hx hb dX2_at_17 rfl (lv_at hl 2 rfl) ?_
    refine rv_iadd hx hb dX2_at_18 ?_
    refine rv_iald hx hb hK hP 1 rfl rfl (by omega) (by omega) dX2_at_19 ?_
    refine rv_top (hT i0 j0 hi0 hj0) ?_
    refine lv_goto (tgt := 24) hx hb dX2_at_20 (by decide) ?_
    exact ret _ _ _ dX2_at_24 (rfl) (an_at_t hi0 hj0 (by omega) (by omega))

set_option maxHeartbeats 4000000 in
set_option maxRecDepth 100000 in
theorem d_rowStart (l : Launch) (D : va_G) (cI : ClassId) (o mo xx yy : Nat) (a : st_A) (u : st_M) (hr : st_rm a u) (i : Int32) : MetR l yX2_rowStart wsX2_rowStart rm_1 D [(cI, .int)] [.ref o, .int i] (st_wM cI o mo xx yy a u) (fun r => r = an_rowStart a i) := by
  obtain ⟨⟨K, R, C, S, np⟩, M0, P, X, Y⟩ := a
  obtain ⟨⟨ta, ot⟩, T, O, E, xX, yY⟩ := u
  have hr : st_RM K R C S np M0 P X Y T E xX yY := hr
  obtain ⟨⟨⟨b1, b2, b3, b4, b5, b6, b7, b8⟩, hM⟩, hT, hE, hz0, hX, hY⟩ := id hr
  refine rs_R (cc := cX2_rowStart) (maxL := 2) (rty := .int) (by decide) rfl (Nat.le_of_ble_eq_true rfl) ?_
  intro p e s m args below meth c Q ls hx hb hml hown hts hP hK hl ret
  have f7 := hts (.fieldLink RX2 7 "RowSparseModel" "table" "[I") (by decide +kernel)
  have f29 := hts (.fieldLink RX2 29 "RowSparseModel" "rows" "I") (by decide +kernel)
  have hin2 : ∀ w ∈ u_ws RX2 TX2 9, w ∈ wsX2_rowStart := by decide +kernel
  have hl : lv_has ls 2 [(0, .ref o), (1, .int i)] := hl
  have hP : va_P D vwCl [(o, .inr (2, [.int (nI K), .int (nI R), .int (nI C), .int (nI np), .ref ta, .ref ot, .ref mo, .ref xx, .ref yy])), (ta, .inl (cI, 3600, .inl T)), (ot, .inl (cI, 3600, .inl O)), (mo, .inl (cI, 3600, .inl E)), (xx, .inl (cI, 60, .inl xX)), (yy, .inl (cI, 60, .inl yY))] s.heap := hP
  refine lv_iload_n hx hb dX2_rowStart_0 rfl (lv_at hl 1 rfl) ?_
  refine lv_iconst (v := nI 0) hx hb dX2_rowStart_1 (by decide +kernel) ?_
  refine lv_aload_n hx hb dX2_rowStart_2 rfl (lv_at hl 0 rfl) ?_
  refine va_get (D := D) (ci := 2) (v := .int (nI R)) (C := RX2) (T := TX2) (N := 9) hx hb hts hin2 hown hK hP 0 rfl rfl 1 (by decide) f29 (fun _ h9 => h9) rfl dX2_rowStart_3 ?_
  refine rs_cRS (As := [.int i, .int (nI 0), .int (nI R)]) (rest := []) ⟨hx, hb, hml, hown, hts⟩ hl.1 (c_in l D cI i R (by omega)) (va_cwS 3 hts gX2_rowStart_X2_in rfl rfl rfl (by decide +kernel) ⟨Nat.le_of_ble_eq_true rfl, Nat.le_of_ble_eq_true rfl⟩) hK hP [] rfl rfl rfl (Nat.le_of_ble_eq_true rfl) dX2_rowStart_6 (Nat.le_of_ble_eq_true rfl) (Nat.le_of_ble_eq_true rfl) (fun r hv => ?_)
  subst hv
  refine lv_if_eq (tgt := 24) hx hb dX2_rowStart_9 (by decide) (fun h1 => ?_) (fun h1 => ?_)
  · have h1 := ms_bI_0.mp h1
    refine lv_iconst (v := (-1)) hx hb dX2_rowStart_24 (by decide +kernel) ?_
    exact ret _ _ _ dX2_rowStart_25 (rfl) (an_rs_f h1)
  · have h1 := ms_bI_n.mp h1
    obtain ⟨i0, hi0, rfl⟩ := ms_in_of h1 (by omega)
    refine lv_aload_n hx hb dX2_rowStart_12 rfl (lv_at hl 0 rfl) ?_
    refine lv_aload_n hx hb dX2_rowStart_13 rfl (lv_at hl 0 rfl) ?_
    refine va_get (D := D) (ci := 2) (v := .ref ta) (C := RX2) (T := TX2) (N := 9) hx hb hts hin2 hown hK hP 0 rfl rfl 4 (by decide) f7 (fun _ h9 => h9) rfl dX2_rowStart_14 ?_
    refine lv_iload_n hx hb dX2_rowStart_17 rfl (lv_at hl 1 rfl) ?_
    refine rs_cR (As := [.ref ta, .int (nI i0)]) (rest := []) ⟨hx, hb, hml, hown, hts⟩ hl.1 (c_many l D cI o R C ta i0 (.int (nI K)) (.int (nI np)) (.ref ta) (.ref ot) (.ref mo) (.ref xx) (.ref yy) T (by omega) (by omega)) (cwV 2 hts gX2_rowStart_X2_many rfl rfl rfl (by decide +kernel) ⟨Nat.le_of_ble_eq_true rfl, Nat.le_of_ble_eq_true rfl⟩) hK hP [0, 1] rfl rfl rfl rfl rfl (Nat.le_of_ble_eq_true rfl) dX2_rowStart_18 (Nat.le_of_ble_eq_true rfl) (Nat.le_of_ble_eq_true rfl) (fun r hv => ?_)
    subst hv
    refine rv_top (congrArg nI (st_cnt b4 (show i0 ≤ R by omega) hM hT)) ?_
    refine lv_goto (tgt := 25) hx hb dX2_rowStart_21 (by decide) ?_
    exact ret _ _ _ dX2_rowStart_25 (rfl) (an_rs_t hi0 (by omega))

set_option maxHeartbeats 4000000 in
set_option maxRecDepth 100000 in
theorem d_colAt (l : Launch) (D : va_G) (cI : ClassId) (o mo xx yy : Nat) (a : st_A) (u : st_M) (hr : st_rm a u) (k : Int32) : MetR l yX2_colAt wsX2_colAt rm_0 D [(cI, .int)] [.ref o, .int k] (st_wM cI o mo xx yy a u) (fun r => an_colAt a k r) := by
  obtain ⟨⟨K, R, C, S, np⟩, M0, P, X, Y⟩ := a
  obtain ⟨⟨ta, ot⟩, T, O, E, xX, yY⟩ := u
  have hr : st_RM K R C S np M0 P X Y T E xX yY := hr
  obtain ⟨⟨⟨b1, b2, b3, b4, b5, b6, b7, b8⟩, hM⟩, hT, hE, hz0, hX, hY⟩ := id hr
  refine rs_R (cc := cX2_colAt) (maxL := 5) (rty := .int) (by decide) rfl (Nat.le_of_ble_eq_true rfl) ?_
  intro p e s m args below meth c Q ls hx hb hml hown hts hP hK hl ret
  have f7 := hts (.fieldLink RX2 7 "RowSparseModel" "table" "[I") (by decide +kernel)
  have f29 := hts (.fieldLink RX2 29 "RowSparseModel" "rows" "I") (by decide +kernel)
  have f33 := hts (.fieldLink RX2 33 "RowSparseModel" "cols" "I") (by decide +kernel)
  have hin2 : ∀ w ∈ u_ws RX2 TX2 9, w ∈ wsX2_colAt := by decide +kernel
  have hl : lv_has ls 5 [(0, .ref o), (1, .int k)] := hl
  have hP : va_P D vwCl [(o, .inr (2, [.int (nI K), .int (nI R), .int (nI C), .int (nI np), .ref ta, .ref ot, .ref mo, .ref xx, .ref yy])), (ta, .inl (cI, 3600, .inl T)), (ot, .inl (cI, 3600, .inl O)), (mo, .inl (cI, 3600, .inl E)), (xx, .inl (cI, 60, .inl xX)), (yy, .inl (cI, 60, .inl yY))] s.heap := hP
  refine lv_iconst (v := nI 0) hx hb dX2_colAt_0 (by decide +kernel) ?_
  refine lv_istore_n (lv' := [(2, .int (nI 0)), (0, .ref o), (1, .int k)]) hx hb dX2_colAt_1 rfl hl (by decide) rfl (fun ls hl => ?_)
  refine lv_iconst (v := nI 0) hx hb dX2_colAt_2 (by decide +kernel) ?_
  refine lv_istore_n (lv' := [(3, .int (nI 0)), (2, .int (nI 0)), (0, .ref o), (1, .int k)]) hx hb dX2_colAt_3 rfl hl (by decide) rfl (fun ls hl => ?_)
  have L4 : ∀ (k4 : Nat) (i : Nat) (ls : Array Slot), i + k4 = R → (∀ q, q < ms_sc M0 S i → ¬ k = nI q) → lv_has ls 5 [(3, .int (nI i)), (2, .int (nI (ms_sc M0 S i))), (0, .ref o), (1, .int k)] → W p l e rm_0 s m args below meth c s.heap [] 0 0 Q (F0 m 4 ls []) := by
    intro k4
    induction k4 with
    | zero =>
      intro i ls hk4 hno hl
      refine lv_iload_n hx hb dX2_colAt_4 rfl (lv_at hl 0 rfl) ?_
      refine lv_aload_n hx hb dX2_colAt_5 rfl (lv_at hl 2 rfl) ?_
      refine va_get (D := D) (ci := 2) (v := .int (nI R)) (C := RX2) (T := TX2) (N := 9) hx hb hts hin2 hown hK hP 0 rfl rfl 1 (by decide) f29 (fun _ h9 => h9) rfl dX2_colAt_6 ?_
      refine rv_ge_t (tgt := 65) hx hb dX2_colAt_9 (by decide) (by omega) (by omega) ?_
      refine lv_iconst (v := (-1)) hx hb dX2_colAt_65 (by decide +kernel) ?_
      exact ret _ _ _ dX2_colAt_66 (rfl) (Or.inr ⟨rfl, by rw [show R = i by omega]; exact st_notany (by have := ms_sc60 (M := M0) (C := S) (R := i) (by omega) (by omega); omega) hno⟩)
    | succ k4 ih4 =>
      intro i ls hk4 hno hl
      refine lv_iload_n hx hb dX2_colAt_4 rfl (lv_at hl 0 rfl) ?_
      refine lv_aload_n hx hb dX2_colAt_5 rfl (lv_at hl 2 rfl) ?_
      refine va_get (D := D) (ci := 2) (v := .int (nI R)) (C := RX2) (T := TX2) (N := 9) hx hb hts hin2 hown hK hP 0 rfl rfl 1 (by decide) f29 (fun _ h9 => h9) rfl dX2_colAt_6 ?_
      refine rv_ge_f (tgt := 65) hx hb dX2_colAt_9 (by decide) (by omega) (by omega) ?_
      refine lv_iconst (v := nI 0) hx hb dX2_colAt_12 (by decide +kernel) ?_
      refine lv_istore (lv' := [(4, .int (nI 0)), (3, .int (nI i)), (2, .int (nI (ms_sc M0 S i))), (0, .ref o), (1, .int k)]) hx hb dX2_colAt_13 hl (by decide) rfl (fun ls hl => ?_)
      have L15 : ∀ (k15 : Nat) (j : Nat) (ls : Array Slot), j + k15 = C → (∀ q, q < ms_sc M0 S i + ms_rc (M0 i) j → ¬ k = nI q) → lv_has ls 5 [(4, .int (nI j)), (2, .int (nI (ms_sc M0 S i + ms_rc (M0 i) j))), (3, .int (nI i)), (0, .ref o), (1, .int k)] → W p l e rm_0 s m args below meth c s.heap [] 0 0 Q (F0 m 15 ls []) := by
        intro k15
        induction k15 with
        | zero =>
          intro j ls hk15 hno2 hl
          have ej : ms_sc M0 S i + ms_rc (M0 i) j = ms_sc M0 S (i + 1) := st_rowend b4 (show j = C by omega) hM
          rw [ej] at hl hno2
          have hno3 := hno2
          refine lv_iload hx hb dX2_colAt_15 (lv_at hl 0 rfl) ?_
          refine lv_aload_n hx hb dX2_colAt_17 rfl (lv_at hl 3 rfl) ?_
          refine va_get (D := D) (ci := 2) (v := .int (nI C)) (C := RX2) (T := TX2) (N := 9) hx hb hts hin2 hown hK hP 0 rfl rfl 2 (by decide) f33 (fun _ h9 => h9) rfl dX2_colAt_18 ?_
          refine rv_ge_t (tgt := 59) hx hb dX2_colAt_21 (by decide) (by omega) (by omega) ?_
          refine lv_iinc (v := nI (i + 1)) (lv' := [(3, .int (nI (i + 1))), (4, .int (nI j)), (2, .int (nI (ms_sc M0 S (i + 1)))), (0, .ref o), (1, .int k)]) hx hb dX2_colAt_59 hl (k := 2) rfl (rv_inc _) (by decide) rfl (fun ls hl => ?_)
          refine lv_goto (tgt := 4) hx hb dX2_colAt_62 (by decide) ?_
          exact ih4 (i + 1) _ (by omega) (hno3) (lv_sub hl [0, 2, 3, 4] rfl)
        | succ k15 ih15 =>
          intro j ls hk15 hno2 hl
          refine lv_iload hx hb dX2_colAt_15 (lv_at hl 0 rfl) ?_
          refine lv_aload_n hx hb dX2_colAt_17 rfl (lv_at hl 3 rfl) ?_
          refine va_get (D := D) (ci := 2) (v := .int (nI C)) (C := RX2) (T := TX2) (N := 9) hx hb hts hin2 hown hK hP 0 rfl rfl 2 (by decide) f33 (fun _ h9 => h9) rfl dX2_colAt_18 ?_
          refine rv_ge_f (tgt := 59) hx hb dX2_colAt_21 (by decide) (by omega) (by omega) ?_
          refine lv_aload_n hx hb dX2_colAt_24 rfl (lv_at hl 3 rfl) ?_
          refine va_get (D := D) (ci := 2) (v := .ref ta) (C := RX2) (T := TX2) (N := 9) hx hb hts hin2 hown hK hP 0 rfl rfl 4 (by decide) f7 (fun _ h9 => h9) rfl dX2_colAt_25 ?_
          refine lv_bipush (v := nI 60) hx hb dX2_colAt_28 (by decide +kernel) ?_
          refine lv_iload_n hx hb dX2_colAt_30 rfl (lv_at hl 2 rfl) ?_
          refine rv_imul hx hb dX2_colAt_31 ?_
          refine lv_iload hx hb dX2_colAt_32 (lv_at hl 0 rfl) ?_
          refine rv_iadd hx hb dX2_colAt_34 ?_
          refine rv_iald hx hb hK hP 1 rfl rfl (by omega) (by omega) dX2_colAt_35 ?_
          refine rv_top (hT i j (by omega) (by omega)) ?_
          refine lv_if_ne (tgt := 42) hx hb dX2_colAt_36 (by decide) (fun hz => ?_) (fun hz => ?_)
          · refine lv_iload_n hx hb dX2_colAt_42 rfl (lv_at hl 1 rfl) ?_
            refine lv_iload_n hx hb dX2_colAt_43 rfl (lv_at hl 4 rfl) ?_
            refine lv_icmp_ne (tgt := 50) hx hb dX2_colAt_44 (by decide) (fun hne => ?_) (fun hne => ?_)
            · refine lv_iinc (v := nI ((ms_sc M0 S i + ms_rc (M0 i) j) + 1)) (lv' := [(2, .int (nI ((ms_sc M0 S i + ms_rc (M0 i) j) + 1))), (4, .int (nI j)), (3, .int (nI i)), (0, .ref o), (1, .int k)]) hx hb dX2_colAt_50 hl (k := 1) rfl (rv_inc _) (by decide) rfl (fun ls hl => ?_)
              refine lv_iinc (v := nI (j + 1)) (lv' := [(4, .int (nI (j + 1))), (2, .int (nI ((ms_sc M0 S i + ms_rc (M0 i) j) + 1))), (3, .int (nI i)), (0, .ref o), (1, .int k)]) hx hb dX2_colAt_53 hl (k := 1) rfl (rv_inc _) (by decide) rfl (fun ls hl => ?_)
              refine lv_goto (tgt := 15) hx hb dX2_colAt_56 (by decide) ?_
              have ez : ms_sc M0 S i + ms_rc (M0 i) j + 1 = ms_sc M0 S i + ms_rc (M0 i) (j + 1) := by rw [ms_rc_yes hz]; rfl
              rw [ez] at hl
              exact ih15 (j + 1) _ (by omega) (fun q hq => by
                rw [← ez] at hq
                by_cases c : q = ms_sc M0 S i + ms_rc (M0 i) j
                · subst c
                  exact fun z => hne z.symm
                · exact hno2 q (by omega)) (lv_sub hl [0, 1, 2, 3, 4] rfl)
            · refine lv_iload hx hb dX2_colAt_47 (lv_at hl 0 rfl) ?_
              exact ret _ _ _ dX2_colAt_49 (rfl) (Or.inl ⟨i, j, by omega, by omega, hz, hne.symm, rfl⟩)
          · refine lv_goto (tgt := 53) hx hb dX2_colAt_39 (by decide) ?_
            refine lv_iinc (v := nI (j + 1)) (lv' := [(4, .int (nI (j + 1))), (2, .int (nI (ms_sc M0 S i + ms_rc (M0 i) j))), (3, .int (nI i)), (0, .ref o), (1, .int k)]) hx hb dX2_colAt_53 hl (k := 0) rfl (rv_inc _) (by decide) rfl (fun ls hl => ?_)
            refine lv_goto (tgt := 15) hx hb dX2_colAt_56 (by decide) ?_
            have ez : ms_rc (M0 i) (j + 1) = ms_rc (M0 i) j := ms_rc_no hz
            rw [← ez] at hl
            exact ih15 (j + 1) _ (by omega) (by rw [ez]; exact hno2) (lv_sub hl [0, 1, 2, 3, 4] rfl)
      exact L15 _ 0 _ (Nat.zero_add _) (hno) (lv_sub hl [0, 2, 1, 3, 4] rfl)
  exact L4 _ 0 _ (Nat.zero_add _) (fun q hq => absurd hq (Nat.not_lt_zero q)) (lv_sub hl [0, 1, 2, 3] rfl)

set_option maxHeartbeats 4000000 in
set_option maxRecDepth 100000 in
theorem d_setX (l : Launch) (D : va_G) (cI : ClassId) (o mo xx yy : Nat) (a : st_A) (u : st_M) (hr : st_rm a u) (j v : Int32) : MetI l yX2_setX wsX2_setX rm_1 D [(cI, .int)] [.ref o, .int j, .int v] (st_wM cI o mo xx yy a u) (fun (r : Int32) (x : st_A × st_M) => r = an_setX a j ∧ x.1 = up_setX a j v ∧ st_rm x.1 x.2) (fun x => st_wM cI o mo xx yy x.1 x.2) 0 0 := by
  obtain ⟨⟨K, R, C, S, np⟩, M0, P, X, Y⟩ := a
  obtain ⟨⟨ta, ot⟩, T, O, E, xX, yY⟩ := u
  have hr : st_RM K R C S np M0 P X Y T E xX yY := hr
  obtain ⟨⟨⟨b1, b2, b3, b4, b5, b6, b7, b8⟩, hM⟩, hT, hE, hz0, hX, hY⟩ := id hr
  refine rs_I (cc := cX2_setX) (maxL := 3) (rty := .boolean) (by decide) rfl (Nat.le_of_ble_eq_true rfl) ?_
  intro p e s m args below meth c Q A ls hx hb hml hown hts hP hK hD hS hA hl ret
  have f19 := hts (.fieldLink RX2 19 "RowSparseModel" "x" "[I") (by decide +kernel)
  have f33 := hts (.fieldLink RX2 33 "RowSparseModel" "cols" "I") (by decide +kernel)
  have hin2 : ∀ w ∈ u_ws RX2 TX2 9, w ∈ wsX2_setX := by decide +kernel
  have hl : lv_has ls 3 [(0, .ref o), (1, .int j), (2, .int v)] := hl
  have hP : va_P D vwCl [(o, .inr (2, [.int (nI K), .int (nI R), .int (nI C), .int (nI np), .ref ta, .ref ot, .ref mo, .ref xx, .ref yy])), (ta, .inl (cI, 3600, .inl T)), (ot, .inl (cI, 3600, .inl O)), (mo, .inl (cI, 3600, .inl E)), (xx, .inl (cI, 60, .inl xX)), (yy, .inl (cI, 60, .inl yY))] s.heap := hP
  have hD : va_D A [(o, .inr (2, [.int (nI K), .int (nI R), .int (nI C), .int (nI np), .ref ta, .ref ot, .ref mo, .ref xx, .ref yy])), (ta, .inl (cI, 3600, .inl T)), (ot, .inl (cI, 3600, .inl O)), (mo, .inl (cI, 3600, .inl E)), (xx, .inl (cI, 60, .inl xX)), (yy, .inl (cI, 60, .inl yY))] := hD
  have eC : C - 1 + 1 = C := by omega
  refine lv_iload_n hx hb dX2_setX_0 rfl (lv_at hl 1 rfl) ?_
  refine lv_iconst (v := nI 0) hx hb dX2_setX_1 (by decide +kernel) ?_
  refine lv_aload_n hx hb dX2_setX_2 rfl (lv_at hl 0 rfl) ?_
  refine va_get (D := D) (ci := 2) (v := .int (nI C)) (C := RX2) (T := TX2) (N := 9) hx hb hts hin2 hown hK hP 0 rfl rfl 2 (by decide) f33 (fun _ h9 => h9) rfl dX2_setX_3 ?_
  refine lv_iconst (v := nI 1) hx hb dX2_setX_6 (by decide +kernel) ?_
  refine rv_isub hx hb (by omega) dX2_setX_7 ?_
  refine rs_cRS (As := [.int j, .int (nI 0), .int (nI (C - 1))]) (rest := []) ⟨hx, hb, hml, hown, hts⟩ hl.1 (c_in l D cI j (C - 1) (by omega)) (va_cwS 3 hts gX2_setX_X2_in rfl rfl rfl (by decide +kernel) ⟨Nat.le_of_ble_eq_true rfl, Nat.le_of_ble_eq_true rfl⟩) hK hP [] rfl rfl rfl (Nat.le_of_ble_eq_true rfl) dX2_setX_8 (Nat.le_of_ble_eq_true rfl) (Nat.le_of_ble_eq_true rfl) (fun r hv => ?_)
  subst hv
  refine lv_if_ne (tgt := 16) hx hb dX2_setX_11 (by decide) (fun h1 => ?_) (fun h1 => ?_)
  · have h1 := ms_bI_n.mp h1
    rw [eC] at h1
    obtain ⟨j0, hj0, rfl⟩ := ms_in_of h1 (by omega)
    refine lv_aload_n hx hb dX2_setX_16 rfl (lv_at hl 0 rfl) ?_
    refine va_get (D := D) (ci := 2) (v := .ref xx) (C := RX2) (T := TX2) (N := 9) hx hb hts hin2 hown hK hP 0 rfl rfl 7 (by decide) f19 (fun _ h9 => h9) rfl dX2_setX_17 ?_
    refine lv_iload_n hx hb dX2_setX_20 rfl (lv_at hl 1 rfl) ?_
    refine lv_iload_n hx hb dX2_setX_21 rfl (lv_at hl 2 rfl) ?_
    refine rv_iast hx hb hK hP hD hS 4 rfl rfl (by omega) (by omega) dX2_setX_22 (fun H locs hP hD hS => ?_)
    have hP : va_P D vwCl [(o, .inr (2, [.int (nI K), .int (nI R), .int (nI C), .int (nI np), .ref ta, .ref ot, .ref mo, .ref xx, .ref yy])), (ta, .inl (cI, 3600, .inl T)), (ot, .inl (cI, 3600, .inl O)), (mo, .inl (cI, 3600, .inl E)), (xx, .inl (cI, 60, .inl (upd xX j0 v))), (yy, .inl (cI, 60, .inl yY))] H := hP
    have hD : va_D A [(o, .inr (2, [.int (nI K), .int (nI R), .int (nI C), .int (nI np), .ref ta, .ref ot, .ref mo, .ref xx, .ref yy])), (ta, .inl (cI, 3600, .inl T)), (ot, .inl (cI, 3600, .inl O)), (mo, .inl (cI, 3600, .inl E)), (xx, .inl (cI, 60, .inl (upd xX j0 v))), (yy, .inl (cI, 60, .inl yY))] := hD
    refine lv_iconst (v := nI 1) hx hb dX2_setX_23 (by decide +kernel) ?_
    exact ret _ _ _ _ _ (((K, R, C, S, np), M0, P, upd X j0 v, Y), ((ta, ot), T, O, (E, upd xX j0 v, yY))) dX2_setX_24 (rfl) (⟨(an_setX_t (v := v) hj0 (by omega)).1, (an_setX_t hj0 (by omega)).2.symm, st_msetx hr⟩) (hP.sub [0, 1, 2, 3, 4, 5] rfl) (hD.sub [0, 1, 2, 3, 4, 5] (by decide) rfl) hS
  · have h1 := ms_bI_0.mp h1
    rw [eC] at h1
    refine lv_iconst (v := nI 0) hx hb dX2_setX_14 (by decide +kernel) ?_
    exact ret _ _ _ _ _ (((K, R, C, S, np), M0, P, X, Y), ((ta, ot), T, O, (E, xX, yY))) dX2_setX_15 (rfl) (⟨(an_setX_f (v := v) h1).1, (an_setX_f h1).2.symm, hr⟩) (hP.sub [0, 1, 2, 3, 4, 5] rfl) (hD.sub [0, 1, 2, 3, 4, 5] (by decide) rfl) hS

set_option maxHeartbeats 4000000 in
set_option maxRecDepth 100000 in
theorem d_y (l : Launch) (D : va_G) (cI : ClassId) (o mo xx yy : Nat) (a : st_A) (u : st_M) (hr : st_rm a u) (i : Int32) : MetR l yX2_y wsX2_y rm_1 D [(cI, .int)] [.ref o, .int i] (st_wM cI o mo xx yy a u) (fun r => r = an_y a i) := by
  obtain ⟨⟨K, R, C, S, np⟩, M0, P, X, Y⟩ := a
  obtain ⟨⟨ta, ot⟩, T, O, E, xX, yY⟩ := u
  have hr : st_RM K R C S np M0 P X Y T E xX yY := hr
  obtain ⟨⟨⟨b1, b2, b3, b4, b5, b6, b7, b8⟩, hM⟩, hT, hE, hz0, hX, hY⟩ := id hr
  refine rs_R (cc := cX2_y) (maxL := 2) (rty := .int) (by decide) rfl (Nat.le_of_ble_eq_true rfl) ?_
  intro p e s m args below meth c Q ls hx hb hml hown hts hP hK hl ret
  have f22 := hts (.fieldLink RX2 22 "RowSparseModel" "y" "[I") (by decide +kernel)
  have f29 := hts (.fieldLink RX2 29 "RowSparseModel" "rows" "I") (by decide +kernel)
  have hin2 : ∀ w ∈ u_ws RX2 TX2 9, w ∈ wsX2_y := by decide +kernel
  have hl : lv_has ls 2 [(0, .ref o), (1, .int i)] := hl
  have hP : va_P D vwCl [(o, .inr (2, [.int (nI K), .int (nI R), .int (nI C), .int (nI np), .ref ta, .ref ot, .ref mo, .ref xx, .ref yy])), (ta, .inl (cI, 3600, .inl T)), (ot, .inl (cI, 3600, .inl O)), (mo, .inl (cI, 3600, .inl E)), (xx, .inl (cI, 60, .inl xX)), (yy, .inl (cI, 60, .inl yY))] s.heap := hP
  have eR : R - 1 + 1 = R := by omega
  refine lv_iload_n hx hb dX2_y_0 rfl (lv_at hl 1 rfl) ?_
  refine lv_iconst (v := nI 0) hx hb dX2_y_1 (by decide +kernel) ?_
  refine lv_aload_n hx hb dX2_y_2 rfl (lv_at hl 0 rfl) ?_
  refine va_get (D := D) (ci := 2) (v := .int (nI R)) (C := RX2) (T := TX2) (N := 9) hx hb hts hin2 hown hK hP 0 rfl rfl 1 (by decide) f29 (fun _ h9 => h9) rfl dX2_y_3 ?_
  refine lv_iconst (v := nI 1) hx hb dX2_y_6 (by decide +kernel) ?_
  refine rv_isub hx hb (by omega) dX2_y_7 ?_
  refine rs_cRS (As := [.int i, .int (nI 0), .int (nI (R - 1))]) (rest := []) ⟨hx, hb, hml, hown, hts⟩ hl.1 (c_in l D cI i (R - 1) (by omega)) (va_cwS 3 hts gX2_y_X2_in rfl rfl rfl (by decide +kernel) ⟨Nat.le_of_ble_eq_true rfl, Nat.le_of_ble_eq_true rfl⟩) hK hP [] rfl rfl rfl (Nat.le_of_ble_eq_true rfl) dX2_y_8 (Nat.le_of_ble_eq_true rfl) (Nat.le_of_ble_eq_true rfl) (fun r hv => ?_)
  subst hv
  refine lv_if_eq (tgt := 23) hx hb dX2_y_11 (by decide) (fun h1 => ?_) (fun h1 => ?_)
  · have h1 := ms_bI_0.mp h1
    rw [eR] at h1
    refine lv_iconst (v := nI 0) hx hb dX2_y_23 (by decide +kernel) ?_
    exact ret _ _ _ dX2_y_24 (rfl) (an_y_f h1)
  · have h1 := ms_bI_n.mp h1
    rw [eR] at h1
    obtain ⟨i0, hi0, rfl⟩ := ms_in_of h1 (by omega)
    refine lv_aload_n hx hb dX2_y_14 rfl (lv_at hl 0 rfl) ?_
    refine va_get (D := D) (ci := 2) (v := .ref yy) (C := RX2) (T := TX2) (N := 9) hx hb hts hin2 hown hK hP 0 rfl rfl 8 (by decide) f22 (fun _ h9 => h9) rfl dX2_y_15 ?_
    refine lv_iload_n hx hb dX2_y_18 rfl (lv_at hl 1 rfl) ?_
    refine rv_iald hx hb hK hP 5 rfl rfl (by omega) (by omega) dX2_y_19 ?_
    refine rv_top (hY i0 hi0) ?_
    refine lv_goto (tgt := 24) hx hb dX2_y_20 (by decide) ?_
    exact ret _ _ _ dX2_y_24 (rfl) (an_y_t hi0 (by omega))

set_option maxHeartbeats 4000000 in
set_option maxRecDepth 100000 in
theorem d_count (l : Launch) (D : va_G) (cI : ClassId) (o mo xx yy : Nat) (a : st_A) (u : st_M) (hr : st_rm a u) (i : Int32) : MetR l yX2_count wsX2_count rm_0 D [(cI, .int)] [.ref o, .int i] (st_wM cI o mo xx yy a u) (fun r => r = an_count a i) := by
  obtain ⟨⟨K, R, C, S, np⟩, M0, P, X, Y⟩ := a
  obtain ⟨⟨ta, ot⟩, T, O, E, xX, yY⟩ := u
  have hr : st_RM K R C S np M0 P X Y T E xX yY := hr
  obtain ⟨⟨⟨b1, b2, b3, b4, b5, b6, b7, b8⟩, hM⟩, hT, hE, hz0, hX, hY⟩ := id hr
  refine rs_R (cc := cX2_count) (maxL := 2) (rty := .int) (by decide) rfl (Nat.le_of_ble_eq_true rfl) ?_
  intro p e s m args below meth c Q ls hx hb hml hown hts hP hK hl ret
  have f29 := hts (.fieldLink RX2 29 "RowSparseModel" "rows" "I") (by decide +kernel)
  have f33 := hts (.fieldLink RX2 33 "RowSparseModel" "cols" "I") (by decide +kernel)
  have f36 := hts (.fieldLink RX2 36 "RowSparseModel" "cap" "I") (by decide +kernel)
  have f47 := hts (.fieldLink RX2 47 "RowSparseModel" "pending" "I") (by decide +kernel)
  have hin2 : ∀ w ∈ u_ws RX2 TX2 9, w ∈ wsX2_count := by decide +kernel
  have hl : lv_has ls 2 [(0, .ref o), (1, .int i)] := hl
  have hP : va_P D vwCl [(o, .inr (2, [.int (nI K), .int (nI R), .int (nI C), .int (nI np), .ref ta, .ref ot, .ref mo, .ref xx, .ref yy])), (ta, .inl (cI, 3600, .inl T)), (ot, .inl (cI, 3600, .inl O)), (mo, .inl (cI, 3600, .inl E)), (xx, .inl (cI, 60, .inl xX)), (yy, .inl (cI, 60, .inl yY))] s.heap := hP
  refine lv_iload_n hx hb dX2_count_0 rfl (lv_at hl 1 rfl) ?_
  refine lv_if_ne (tgt := 11) hx hb dX2_count_1 (by decide) (fun w0 => ?_) (fun w0 => ?_)
  · refine lv_iload_n hx hb dX2_count_11 rfl (lv_at hl 1 rfl) ?_
    refine lv_iconst (v := nI 1) hx hb dX2_count_12 (by decide +kernel) ?_
    refine lv_icmp_ne (tgt := 23) hx hb dX2_count_13 (by decide) (fun w1 => ?_) (fun w1 => ?_)
    · refine lv_iload_n hx hb dX2_count_23 rfl (lv_at hl 1 rfl) ?_
      refine lv_iconst (v := nI 2) hx hb dX2_count_24 (by decide +kernel) ?_
      refine lv_icmp_ne (tgt := 35) hx hb dX2_count_25 (by decide) (fun w2 => ?_) (fun w2 => ?_)
      · refine lv_iload_n hx hb dX2_count_35 rfl (lv_at hl 1 rfl) ?_
        refine lv_iconst (v := nI 3) hx hb dX2_count_36 (by decide +kernel) ?_
        refine lv_icmp_ne (tgt := 47) hx hb dX2_count_37 (by decide) (fun w3 => ?_) (fun w3 => ?_)
        · refine lv_iconst (v := (-1)) hx hb dX2_count_47 (by decide +kernel) ?_
          exact ret _ _ _ dX2_count_48 (rfl) (((if_neg w0).trans ((if_neg w1).trans ((if_neg w2).trans (if_neg w3)))).symm)
        · refine lv_aload_n hx hb dX2_count_40 rfl (lv_at hl 0 rfl) ?_
          refine va_get (D := D) (ci := 2) (v := .int (nI np)) (C := RX2) (T := TX2) (N := 9) hx hb hts hin2 hown hK hP 0 rfl rfl 3 (by decide) f47 (fun _ h9 => h9) rfl dX2_count_41 ?_
          refine lv_goto (tgt := 48) hx hb dX2_count_44 (by decide) ?_
          exact ret _ _ _ dX2_count_48 (rfl) (((if_neg w0).trans ((if_neg w1).trans ((if_neg w2).trans (if_pos w3)))).symm)
      · refine lv_aload_n hx hb dX2_count_28 rfl (lv_at hl 0 rfl) ?_
        refine va_get (D := D) (ci := 2) (v := .int (nI K)) (C := RX2) (T := TX2) (N := 9) hx hb hts hin2 hown hK hP 0 rfl rfl 0 (by decide) f36 (fun _ h9 => h9) rfl dX2_count_29 ?_
        refine lv_goto (tgt := 48) hx hb dX2_count_32 (by decide) ?_
        exact ret _ _ _ dX2_count_48 (rfl) (((if_neg w0).trans ((if_neg w1).trans (if_pos w2))).symm)
    · refine lv_aload_n hx hb dX2_count_16 rfl (lv_at hl 0 rfl) ?_
      refine va_get (D := D) (ci := 2) (v := .int (nI C)) (C := RX2) (T := TX2) (N := 9) hx hb hts hin2 hown hK hP 0 rfl rfl 2 (by decide) f33 (fun _ h9 => h9) rfl dX2_count_17 ?_
      refine lv_goto (tgt := 48) hx hb dX2_count_20 (by decide) ?_
      exact ret _ _ _ dX2_count_48 (rfl) (((if_neg w0).trans (if_pos w1)).symm)
  · refine lv_aload_n hx hb dX2_count_4 rfl (lv_at hl 0 rfl) ?_
    refine va_get (D := D) (ci := 2) (v := .int (nI R)) (C := RX2) (T := TX2) (N := 9) hx hb hts hin2 hown hK hP 0 rfl rfl 1 (by decide) f29 (fun _ h9 => h9) rfl dX2_count_5 ?_
    refine lv_goto (tgt := 48) hx hb dX2_count_8 (by decide) ?_
    exact ret _ _ _ dX2_count_48 (rfl) ((if_pos w0).symm)

set_option maxHeartbeats 4000000 in
set_option maxRecDepth 100000 in
theorem d_add (l : Launch) (D : va_G) (cI : ClassId) (o mo xx yy : Nat) (a : st_A) (u : st_M) (hr : st_rm a u) (i j v : Int32) : MetI l yX2_add wsX2_add rm_2 D [(cI, .int)] [.ref o, .int i, .int j, .int v] (st_wM cI o mo xx yy a u) (fun (r : Int32) (x : st_A × st_M) => r = (an_add a i j).1 ∧ x.1 = up_add a i j v ∧ st_rm x.1 x.2) (fun x => st_wM cI o mo xx yy x.1 x.2) 0 0 := by
  obtain ⟨⟨K, R, C, S, np⟩, M0, P, X, Y⟩ := a
  obtain ⟨⟨ta, ot⟩, T, O, E, xX, yY⟩ := u
  have hr : st_RM K R C S np M0 P X Y T E xX yY := hr
  obtain ⟨⟨⟨b1, b2, b3, b4, b5, b6, b7, b8⟩, hM⟩, hT, hE, hz0, hX, hY⟩ := id hr
  refine rs_I (cc := cX2_add) (maxL := 4) (rty := .boolean) (by decide) rfl (Nat.le_of_ble_eq_true rfl) ?_
  intro p e s m args below meth c Q A ls hx hb hml hown hts hP hK hD hS hA hl ret
  have f16 := hts (.fieldLink RX2 16 "RowSparseModel" "more" "[I") (by decide +kernel)
  have f36 := hts (.fieldLink RX2 36 "RowSparseModel" "cap" "I") (by decide +kernel)
  have f47 := hts (.fieldLink RX2 47 "RowSparseModel" "pending" "I") (by decide +kernel)
  have hin2 : ∀ w ∈ u_ws RX2 TX2 9, w ∈ wsX2_add := by decide +kernel
  have hl : lv_has ls 4 [(0, .ref o), (1, .int i), (2, .int j), (3, .int v)] := hl
  have hP : va_P D vwCl [(o, .inr (2, [.int (nI K), .int (nI R), .int (nI C), .int (nI np), .ref ta, .ref ot, .ref mo, .ref xx, .ref yy])), (ta, .inl (cI, 3600, .inl T)), (ot, .inl (cI, 3600, .inl O)), (mo, .inl (cI, 3600, .inl E)), (xx, .inl (cI, 60, .inl xX)), (yy, .inl (cI, 60, .inl yY))] s.heap := hP
  have hD : va_D A [(o, .inr (2, [.int (nI K), .int (nI R), .int (nI C), .int (nI np), .ref ta, .ref ot, .ref mo, .ref xx, .ref yy])), (ta, .inl (cI, 3600, .inl T)), (ot, .inl (cI, 3600, .inl O)), (mo, .inl (cI, 3600, .inl E)), (xx, .inl (cI, 60, .inl xX)), (yy, .inl (cI, 60, .inl yY))] := hD
  refine lv_aload_n hx hb dX2_add_0 rfl (lv_at hl 0 rfl) ?_
  refine lv_iload_n hx hb dX2_add_1 rfl (lv_at hl 1 rfl) ?_
  refine lv_iload_n hx hb dX2_add_2 rfl (lv_at hl 2 rfl) ?_
  refine rs_cR (As := [.int i, .int j]) (rest := []) ⟨hx, hb, hml, hown, hts⟩ hl.1 (c_isPlace l D cI o R C (.int (nI K)) (.int (nI np)) (.ref ta) (.ref ot) (.ref mo) (.ref xx) (.ref yy) i j b1 b2 (by omega) (by omega)) (cwV 2 hts gX2_add_X2_isPlace rfl rfl rfl (by decide +kernel) ⟨Nat.le_of_ble_eq_true rfl, Nat.le_of_ble_eq_true rfl⟩) hK hP [0] rfl rfl rfl rfl rfl (Nat.le_of_ble_eq_true rfl) dX2_add_3 (Nat.le_of_ble_eq_true rfl) (Nat.le_of_ble_eq_true rfl) (fun r hv => ?_)
  subst hv
  refine lv_if_eq (tgt := 20) hx hb dX2_add_6 (by decide) (fun h1 => ?_) (fun h1 => ?_)
  · have h1 := ms_bI_0.mp h1
    refine lv_iconst (v := nI 0) hx hb dX2_add_20 (by decide +kernel) ?_
    exact ret _ _ _ _ _ (((K, R, C, S, np), M0, P, X, Y), ((ta, ot), T, O, (E, xX, yY))) dX2_add_21 (rfl) (⟨(an_add_f (v := v) (an_add_c1 h1)).1, (an_add_f (an_add_c1 h1)).2.symm, hr⟩) (hP.sub [0, 1, 2, 3, 4, 5] rfl) (hD.sub [0, 1, 2, 3, 4, 5] (by decide) rfl) hS
  · have h1 := ms_bI_n.mp h1
    refine lv_aload_n hx hb dX2_add_9 rfl (lv_at hl 0 rfl) ?_
    refine va_get (D := D) (ci := 2) (v := .int (nI np)) (C := RX2) (T := TX2) (N := 9) hx hb hts hin2 hown hK hP 0 rfl rfl 3 (by decide) f47 (fun _ h9 => h9) rfl dX2_add_10 ?_
    refine lv_aload_n hx hb dX2_add_13 rfl (lv_at hl 0 rfl) ?_
    refine va_get (D := D) (ci := 2) (v := .int (nI K)) (C := RX2) (T := TX2) (N := 9) hx hb hts hin2 hown hK hP 0 rfl rfl 0 (by decide) f36 (fun _ h9 => h9) rfl dX2_add_14 ?_
    refine rv_ne (tgt := 22) hx hb dX2_add_17 (by decide) (by omega) (by omega) (fun h2 => ?_) (fun h2 => ?_)
    · have h1 := Bool.and_eq_true_iff.mp h1
      obtain ⟨i0, hi0, rfl⟩ := ms_in_of h1.1 (by omega)
      obtain ⟨j0, hj0, rfl⟩ := ms_in_of h1.2 (by omega)
      have h3 : np < K := by omega
      have h9 := an_add_c3 (K := K) (np := np) hi0 hj0 (by omega) (by omega) h3
      refine lv_aload_n hx hb dX2_add_22 rfl (lv_at hl 0 rfl) ?_
      refine va_get (D := D) (ci := 2) (v := .ref mo) (C := RX2) (T := TX2) (N := 9) hx hb hts hin2 hown hK hP 0 rfl rfl 6 (by decide) f16 (fun _ h9 => h9) rfl dX2_add_23 ?_
      refine lv_bipush (v := nI 60) hx hb dX2_add_26 (by decide +kernel) ?_
      refine lv_iload_n hx hb dX2_add_28 rfl (lv_at hl 1 rfl) ?_
      refine rv_imul hx hb dX2_add_29 ?_
      refine lv_iload_n hx hb dX2_add_30 rfl (lv_at hl 2 rfl) ?_
      refine rv_iadd hx hb dX2_add_31 ?_
      refine lv_dup2_11 hx hb dX2_add_32 rfl rfl ?_
      refine rv_iald hx hb hK hP 3 rfl rfl (by omega) (by omega) dX2_add_33 ?_
      refine lv_iload_n hx hb dX2_add_34 rfl (lv_at hl 3 rfl) ?_
      refine lv_iadd hx hb dX2_add_35 ?_
      refine rv_iast hx hb hK hP hD hS 3 rfl rfl (by omega) (by omega) dX2_add_36 (fun H locs hP hD hS => ?_)
      have hP : va_P D vwCl [(o, .inr (2, [.int (nI K), .int (nI R), .int (nI C), .int (nI np), .ref ta, .ref ot, .ref mo, .ref xx, .ref yy])), (ta, .inl (cI, 3600, .inl T)), (ot, .inl (cI, 3600, .inl O)), (mo, .inl (cI, 3600, .inl (upd E (60 * i0 + j0) ((E (60 * i0 + j0)) + v)))), (xx, .inl (cI, 60, .inl xX)), (yy, .inl (cI, 60, .inl yY))] H := hP
      have hD : va_D A [(o, .inr (2, [.int (nI K), .int (nI R), .int (nI C), .int (nI np), .ref ta, .ref ot, .ref mo, .ref xx, .ref yy])), (ta, .inl (cI, 3600, .inl T)), (ot, .inl (cI, 3600, .inl O)), (mo, .inl (cI, 3600, .inl (upd E (60 * i0 + j0) ((E (60 * i0 + j0)) + v)))), (xx, .inl (cI, 60, .inl xX)), (yy, .inl (cI, 60, .inl yY))] := hD
      refine lv_aload_n hx hb dX2_add_37 rfl (lv_at hl 0 rfl) ?_
      refine lv_dup hx hb dX2_add_38 rfl ?_
      refine va_get (D := D) (ci := 2) (v := .int (nI np)) (C := RX2) (T := TX2) (N := 9) hx hb hts hin2 hown hK hP 0 rfl rfl 3 (by decide) f47 (fun _ h9 => h9) rfl dX2_add_39 ?_
      refine lv_iconst (v := nI 1) hx hb dX2_add_42 (by decide +kernel) ?_
      refine rv_iadd hx hb dX2_add_43 ?_
      refine va_put (D := D) (ci := 2) (v := .int (nI (np + 1))) (ty := .int) (C := RX2) (T := TX2) (N := 9) hx hb hts hin2 tyX2 tyX2_ok nmX2 hown hK hP hD hS 0 rfl rfl 3 (by decide) f47 (fun _ h9 => h9) rfl (by decide +kernel) rfl rfl (Nat.le_of_ble_eq_true rfl) dX2_add_44 (fun H locs hP hD hS => ?_)
      have hP : va_P D vwCl [(o, .inr (2, [.int (nI K), .int (nI R), .int (nI C), .int (nI (np + 1)), .ref ta, .ref ot, .ref mo, .ref xx, .ref yy])), (ta, .inl (cI, 3600, .inl T)), (ot, .inl (cI, 3600, .inl O)), (mo, .inl (cI, 3600, .inl (upd E (60 * i0 + j0) ((E (60 * i0 + j0)) + v)))), (xx, .inl (cI, 60, .inl xX)), (yy, .inl (cI, 60, .inl yY))] H := hP
      have hD : va_D A [(o, .inr (2, [.int (nI K), .int (nI R), .int (nI C), .int (nI (np + 1)), .ref ta, .ref ot, .ref mo, .ref xx, .ref yy])), (ta, .inl (cI, 3600, .inl T)), (ot, .inl (cI, 3600, .inl O)), (mo, .inl (cI, 3600, .inl (upd E (60 * i0 + j0) ((E (60 * i0 + j0)) + v)))), (xx, .inl (cI, 60, .inl xX)), (yy, .inl (cI, 60, .inl yY))] := hD
      refine lv_iconst (v := nI 1) hx hb dX2_add_47 (by decide +kernel) ?_
      exact ret _ _ _ _ _ (((K, R, C, S, np + 1), M0, (fun a b => if nI a = nI i0 ∧ nI b = nI j0 then P a b + v else P a b), X, Y), ((ta, ot), T, O, (upd E (60 * i0 + j0) (E (60 * i0 + j0) + v), xX, yY))) dX2_add_48 (rfl) (⟨(an_add_t (v := v) h9).1, (an_add_t h9).2.symm, st_madd hr hi0 hj0 h3⟩) (hP.sub [0, 1, 2, 3, 4, 5] rfl) (hD.sub [0, 1, 2, 3, 4, 5] (by decide) rfl) hS
    · refine lv_iconst (v := nI 0) hx hb dX2_add_20 (by decide +kernel) ?_
      exact ret _ _ _ _ _ (((K, R, C, S, np), M0, P, X, Y), ((ta, ot), T, O, (E, xX, yY))) dX2_add_21 (rfl) (⟨(an_add_f (v := v) (an_add_c2 (by omega))).1, (an_add_f (an_add_c2 (by omega))).2.symm, hr⟩) (hP.sub [0, 1, 2, 3, 4, 5] rfl) (hD.sub [0, 1, 2, 3, 4, 5] (by decide) rfl) hS

set_option maxHeartbeats 4000000 in
set_option maxRecDepth 100000 in
theorem d_multiplyVector (l : Launch) (D : va_G) (cI : ClassId) (o mo xx yy : Nat) (a : st_A) (u : st_M) (hr : st_rm a u)  : MetI l yX2_multiplyVector wsX2_multiplyVector rm_0 D [(cI, .int)] [.ref o] (st_wM cI o mo xx yy a u) (fun (r : Int32) (x : st_A × st_M) => r = 1 ∧ x.1 = up_mul a ∧ st_rm x.1 x.2) (fun x => st_wM cI o mo xx yy x.1 x.2) 0 0 := by
  obtain ⟨⟨K, R, C, S, np⟩, M0, P, X, Y⟩ := a
  obtain ⟨⟨ta, ot⟩, T, O, E, xX, yY⟩ := u
  have hr : st_RM K R C S np M0 P X Y T E xX yY := hr
  obtain ⟨⟨⟨b1, b2, b3, b4, b5, b6, b7, b8⟩, hM⟩, hT, hE, hz0, hX, hY⟩ := id hr
  refine rs_I (cc := cX2_multiplyVector) (maxL := 4) (rty := .boolean) (by decide) rfl (Nat.le_of_ble_eq_true rfl) ?_
  intro p e s m args below meth c Q A ls hx hb hml hown hts hP hK hD hS hA hl ret
  have f7 := hts (.fieldLink RX2 7 "RowSparseModel" "table" "[I") (by decide +kernel)
  have f19 := hts (.fieldLink RX2 19 "RowSparseModel" "x" "[I") (by decide +kernel)
  have f22 := hts (.fieldLink RX2 22 "RowSparseModel" "y" "[I") (by decide +kernel)
  have f29 := hts (.fieldLink RX2 29 "RowSparseModel" "rows" "I") (by decide +kernel)
  have f33 := hts (.fieldLink RX2 33 "RowSparseModel" "cols" "I") (by decide +kernel)
  have hin2 : ∀ w ∈ u_ws RX2 TX2 9, w ∈ wsX2_multiplyVector := by decide +kernel
  have hl : lv_has ls 4 [(0, .ref o)] := hl
  have hP : va_P D vwCl [(o, .inr (2, [.int (nI K), .int (nI R), .int (nI C), .int (nI np), .ref ta, .ref ot, .ref mo, .ref xx, .ref yy])), (ta, .inl (cI, 3600, .inl T)), (ot, .inl (cI, 3600, .inl O)), (mo, .inl (cI, 3600, .inl E)), (xx, .inl (cI, 60, .inl xX)), (yy, .inl (cI, 60, .inl yY))] s.heap := hP
  have hD : va_D A [(o, .inr (2, [.int (nI K), .int (nI R), .int (nI C), .int (nI np), .ref ta, .ref ot, .ref mo, .ref xx, .ref yy])), (ta, .inl (cI, 3600, .inl T)), (ot, .inl (cI, 3600, .inl O)), (mo, .inl (cI, 3600, .inl E)), (xx, .inl (cI, 60, .inl xX)), (yy, .inl (cI, 60, .inl yY))] := hD
  refine lv_iconst (v := nI 0) hx hb dX2_multiplyVector_0 (by decide +kernel) ?_
  refine lv_istore_n (lv' := [(1, .int (nI 0)), (0, .ref o)]) hx hb dX2_multiplyVector_1 rfl hl (by decide) rfl (fun ls hl => ?_)
  have L2 : ∀ (k2 : Nat) (i : Nat) (y1 : Nat → Int32) (H : Heap) (locs : List Loc) (ls : Array Slot), i + k2 = R → (∀ t, t < i → y1 t = ms_sm (fun j => M0 t j * X j) C) → va_P D vwCl [(o, .inr (2, [.int (nI K), .int (nI R), .int (nI C), .int (nI np), .ref ta, .ref ot, .ref mo, .ref xx, .ref yy])), (ta, .inl (cI, 3600, .inl T)), (ot, .inl (cI, 3600, .inl O)), (mo, .inl (cI, 3600, .inl E)), (xx, .inl (cI, 60, .inl xX)), (yy, .inl (cI, 60, .inl y1))] H → va_D A [(o, .inr (2, [.int (nI K), .int (nI R), .int (nI C), .int (nI np), .ref ta, .ref ot, .ref mo, .ref xx, .ref yy])), (ta, .inl (cI, 3600, .inl T)), (ot, .inl (cI, 3600, .inl O)), (mo, .inl (cI, 3600, .inl E)), (xx, .inl (cI, 60, .inl xX)), (yy, .inl (cI, 60, .inl y1))] → va_S A s.heap H locs → lv_has ls 4 [(1, .int (nI i)), (0, .ref o)] → W p l e rm_0 s m args below meth c H locs 0 0 Q (F0 m 2 ls []) := by
    intro k2
    induction k2 with
    | zero =>
      intro i y1 H locs ls hk2 hy hP hD hS hl
      refine lv_iload_n hx hb dX2_multiplyVector_2 rfl (lv_at hl 0 rfl) ?_
      refine lv_aload_n hx hb dX2_multiplyVector_3 rfl (lv_at hl 1 rfl) ?_
      refine va_get (D := D) (ci := 2) (v := .int (nI R)) (C := RX2) (T := TX2) (N := 9) hx hb hts hin2 hown hK hP 0 rfl rfl 1 (by decide) f29 (fun _ h9 => h9) rfl dX2_multiplyVector_4 ?_
      refine rv_ge_t (tgt := 62) hx hb dX2_multiplyVector_7 (by decide) (by omega) (by omega) ?_
      refine lv_iconst (v := nI 1) hx hb dX2_multiplyVector_62 (by decide +kernel) ?_
      exact ret _ _ _ _ _ (((K, R, C, S, np), M0, P, X, fun i => ms_sm (fun j => M0 i j * X j) C), ((ta, ot), T, O, (E, xX, y1))) dX2_multiplyVector_63 (rfl) (⟨ms_n1, rfl, st_mmul hr (fun t ht => hy t (by omega))⟩) (hP.sub [0, 1, 2, 3, 4, 5] rfl) (hD.sub [0, 1, 2, 3, 4, 5] (by decide) rfl) hS
    | succ k2 ih2 =>
      intro i y1 H locs ls hk2 hy hP hD hS hl
      have hi0 : i < R := by omega
      refine lv_iload_n hx hb dX2_multiplyVector_2 rfl (lv_at hl 0 rfl) ?_
      refine lv_aload_n hx hb dX2_multiplyVector_3 rfl (lv_at hl 1 rfl) ?_
      refine va_get (D := D) (ci := 2) (v := .int (nI R)) (C := RX2) (T := TX2) (N := 9) hx hb hts hin2 hown hK hP 0 rfl rfl 1 (by decide) f29 (fun _ h9 => h9) rfl dX2_multiplyVector_4 ?_
      refine rv_ge_f (tgt := 62) hx hb dX2_multiplyVector_7 (by decide) (by omega) (by omega) ?_
      refine lv_iconst (v := nI 0) hx hb dX2_multiplyVector_10 (by decide +kernel) ?_
      refine lv_istore_n (lv' := [(2, .int (nI 0)), (1, .int (nI i)), (0, .ref o)]) hx hb dX2_multiplyVector_11 rfl hl (by decide) rfl (fun ls hl => ?_)
      refine lv_iconst (v := nI 0) hx hb dX2_multiplyVector_12 (by decide +kernel) ?_
      refine lv_istore_n (lv' := [(3, .int (nI 0)), (2, .int (nI 0)), (1, .int (nI i)), (0, .ref o)]) hx hb dX2_multiplyVector_13 rfl hl (by decide) rfl (fun ls hl => ?_)
      have L14 : ∀ (k14 : Nat) (j : Nat) (v : Int32) (ls : Array Slot), j + k14 = C → v = ms_sm (fun j => M0 i j * X j) j → lv_has ls 4 [(3, .int (nI j)), (2, .int v), (1, .int (nI i)), (0, .ref o)] → W p l e rm_0 s m args below meth c H locs 0 0 Q (F0 m 14 ls []) := by
        intro k14
        induction k14 with
        | zero =>
          intro j v ls hk14 hv hl
          refine lv_iload_n hx hb dX2_multiplyVector_14 rfl (lv_at hl 0 rfl) ?_
          refine lv_aload_n hx hb dX2_multiplyVector_15 rfl (lv_at hl 3 rfl) ?_
          refine va_get (D := D) (ci := 2) (v := .int (nI C)) (C := RX2) (T := TX2) (N := 9) hx hb hts hin2 hown hK hP 0 rfl rfl 2 (by decide) f33 (fun _ h9 => h9) rfl dX2_multiplyVector_16 ?_
          refine rv_ge_t (tgt := 49) hx hb dX2_multiplyVector_19 (by decide) (by omega) (by omega) ?_
          refine lv_aload_n hx hb dX2_multiplyVector_49 rfl (lv_at hl 3 rfl) ?_
          refine va_get (D := D) (ci := 2) (v := .ref yy) (C := RX2) (T := TX2) (N := 9) hx hb hts hin2 hown hK hP 0 rfl rfl 8 (by decide) f22 (fun _ h9 => h9) rfl dX2_multiplyVector_50 ?_
          refine lv_iload_n hx hb dX2_multiplyVector_53 rfl (lv_at hl 2 rfl) ?_
          refine lv_iload_n hx hb dX2_multiplyVector_54 rfl (lv_at hl 1 rfl) ?_
          refine rv_iast hx hb hK hP hD hS 5 rfl rfl (by omega) (by omega) dX2_multiplyVector_55 (fun H locs hP hD hS => ?_)
          have hP : va_P D vwCl [(o, .inr (2, [.int (nI K), .int (nI R), .int (nI C), .int (nI np), .ref ta, .ref ot, .ref mo, .ref xx, .ref yy])), (ta, .inl (cI, 3600, .inl T)), (ot, .inl (cI, 3600, .inl O)), (mo, .inl (cI, 3600, .inl E)), (xx, .inl (cI, 60, .inl xX)), (yy, .inl (cI, 60, .inl (upd y1 i v)))] H := hP
          have hD : va_D A [(o, .inr (2, [.int (nI K), .int (nI R), .int (nI C), .int (nI np), .ref ta, .ref ot, .ref mo, .ref xx, .ref yy])), (ta, .inl (cI, 3600, .inl T)), (ot, .inl (cI, 3600, .inl O)), (mo, .inl (cI, 3600, .inl E)), (xx, .inl (cI, 60, .inl xX)), (yy, .inl (cI, 60, .inl (upd y1 i v)))] := hD
          refine lv_iinc (v := nI (i + 1)) (lv' := [(1, .int (nI (i + 1))), (3, .int (nI j)), (2, .int v), (0, .ref o)]) hx hb dX2_multiplyVector_56 hl (k := 2) rfl (rv_inc _) (by decide) rfl (fun ls hl => ?_)
          refine lv_goto (tgt := 2) hx hb dX2_multiplyVector_59 (by decide) ?_
          exact ih2 (i + 1) (upd y1 i v) _ _ _ (by omega) (by
            have ej : v = ms_sm (fun j => M0 i j * X j) C := by rw [hv, show j = C by omega]
            rw [ej]
            exact ms_updstep (F := fun t => ms_sm (fun j => M0 t j * X j) C) hy) (hP.sub [0, 1, 2, 3, 4, 5] rfl) (hD.sub [0, 1, 2, 3, 4, 5] (by decide) rfl) hS (lv_sub hl [0, 3] rfl)
        | succ k14 ih14 =>
          intro j v ls hk14 hv hl
          refine lv_iload_n hx hb dX2_multiplyVector_14 rfl (lv_at hl 0 rfl) ?_
          refine lv_aload_n hx hb dX2_multiplyVector_15 rfl (lv_at hl 3 rfl) ?_
          refine va_get (D := D) (ci := 2) (v := .int (nI C)) (C := RX2) (T := TX2) (N := 9) hx hb hts hin2 hown hK hP 0 rfl rfl 2 (by decide) f33 (fun _ h9 => h9) rfl dX2_multiplyVector_16 ?_
          refine rv_ge_f (tgt := 49) hx hb dX2_multiplyVector_19 (by decide) (by omega) (by omega) ?_
          refine lv_iload_n hx hb dX2_multiplyVector_22 rfl (lv_at hl 1 rfl) ?_
          refine lv_aload_n hx hb dX2_multiplyVector_23 rfl (lv_at hl 3 rfl) ?_
          refine va_get (D := D) (ci := 2) (v := .ref ta) (C := RX2) (T := TX2) (N := 9) hx hb hts hin2 hown hK hP 0 rfl rfl 4 (by decide) f7 (fun _ h9 => h9) rfl dX2_multiplyVector_24 ?_
          refine lv_bipush (v := nI 60) hx hb dX2_multiplyVector_27 (by decide +kernel) ?_
          refine lv_iload_n hx hb dX2_multiplyVector_29 rfl (lv_at hl 2 rfl) ?_
          refine rv_imul hx hb dX2_multiplyVector_30 ?_
          refine lv_iload_n hx hb dX2_multiplyVector_31 rfl (lv_at hl 0 rfl) ?_
          refine rv_iadd hx hb dX2_multiplyVector_32 ?_
          refine rv_iald hx hb hK hP 1 rfl rfl (by omega) (by omega) dX2_multiplyVector_33 ?_
          refine rv_top (hT i j (by omega) (by omega)) ?_
          refine lv_aload_n hx hb dX2_multiplyVector_34 rfl (lv_at hl 3 rfl) ?_
          refine va_get (D := D) (ci := 2) (v := .ref xx) (C := RX2) (T := TX2) (N := 9) hx hb hts hin2 hown hK hP 0 rfl rfl 7 (by decide) f19 (fun _ h9 => h9) rfl dX2_multiplyVector_35 ?_
          refine lv_iload_n hx hb dX2_multiplyVector_38 rfl (lv_at hl 0 rfl) ?_
          refine rv_iald hx hb hK hP 4 rfl rfl (by omega) (by omega) dX2_multiplyVector_39 ?_
          refine rv_top (hX j (by omega)) ?_
          refine lv_imul hx hb dX2_multiplyVector_40 ?_
          refine lv_iadd hx hb dX2_multiplyVector_41 ?_
          refine lv_istore_n (lv' := [(2, .int (v + ((M0 i j) * (X j)))), (3, .int (nI j)), (1, .int (nI i)), (0, .ref o)]) hx hb dX2_multiplyVector_42 rfl hl (by decide) rfl (fun ls hl => ?_)
          refine lv_iinc (v := nI (j + 1)) (lv' := [(3, .int (nI (j + 1))), (2, .int (v + ((M0 i j) * (X j)))), (1, .int (nI i)), (0, .ref o)]) hx hb dX2_multiplyVector_43 hl (k := 1) rfl (rv_inc _) (by decide) rfl (fun ls hl => ?_)
          refine lv_goto (tgt := 14) hx hb dX2_multiplyVector_46 (by decide) ?_
          exact ih14 (j + 1) (v + ((M0 i j) * (X j))) _ (by omega) (by rw [hv]; rfl) (lv_sub hl [0, 1, 2, 3] rfl)
      exact L14 _ 0 (nI 0) _ (Nat.zero_add _) (ms_nz) (lv_sub hl [0, 1, 2, 3] rfl)
  exact L2 _ 0 yY _ _ _ (Nat.zero_add _) (fun t ht => absurd ht (Nat.not_lt_zero t)) (hP.sub [0, 1, 2, 3, 4, 5] rfl) (hD.sub [0, 1, 2, 3, 4, 5] (by decide) rfl) hS (lv_sub hl [0, 1] rfl)

set_option maxHeartbeats 4000000 in
set_option maxRecDepth 100000 in
theorem d_build (l : Launch) (D : va_G) (cI : ClassId) (o mo xx yy : Nat) (a : st_A) (u : st_M) (hr : st_rm a u)  : MetI l yX2_build wsX2_build rm_2 D [(cI, .int)] [.ref o] (st_wM cI o mo xx yy a u) (fun (r : Int32) (x : st_A × st_M) => r = an_build a ∧ x.1 = up_build a ∧ st_rm x.1 x.2) (fun x => st_wM cI o mo xx yy x.1 x.2) 0 0 := by
  obtain ⟨⟨K, R, C, S, np⟩, M0, P, X, Y⟩ := a
  obtain ⟨⟨ta, ot⟩, T, O, E, xX, yY⟩ := u
  have hr : st_RM K R C S np M0 P X Y T E xX yY := hr
  obtain ⟨⟨⟨b1, b2, b3, b4, b5, b6, b7, b8⟩, hM⟩, hT, hE, hz0, hX, hY⟩ := id hr
  refine rs_I (cc := cX2_build) (maxL := 3) (rty := .int) (by decide) rfl (Nat.le_of_ble_eq_true rfl) ?_
  intro p e s m args below meth c Q A ls hx hb hml hown hts hP hK hD hS hA hl ret
  have f7 := hts (.fieldLink RX2 7 "RowSparseModel" "table" "[I") (by decide +kernel)
  have f13 := hts (.fieldLink RX2 13 "RowSparseModel" "other" "[I") (by decide +kernel)
  have f16 := hts (.fieldLink RX2 16 "RowSparseModel" "more" "[I") (by decide +kernel)
  have f29 := hts (.fieldLink RX2 29 "RowSparseModel" "rows" "I") (by decide +kernel)
  have f33 := hts (.fieldLink RX2 33 "RowSparseModel" "cols" "I") (by decide +kernel)
  have f47 := hts (.fieldLink RX2 47 "RowSparseModel" "pending" "I") (by decide +kernel)
  have hin2 : ∀ w ∈ u_ws RX2 TX2 9, w ∈ wsX2_build := by decide +kernel
  have hl : lv_has ls 3 [(0, .ref o)] := hl
  have hP : va_P D vwCl [(o, .inr (2, [.int (nI K), .int (nI R), .int (nI C), .int (nI np), .ref ta, .ref ot, .ref mo, .ref xx, .ref yy])), (ta, .inl (cI, 3600, .inl T)), (ot, .inl (cI, 3600, .inl O)), (mo, .inl (cI, 3600, .inl E)), (xx, .inl (cI, 60, .inl xX)), (yy, .inl (cI, 60, .inl yY))] s.heap := hP
  have hD : va_D A [(o, .inr (2, [.int (nI K), .int (nI R), .int (nI C), .int (nI np), .ref ta, .ref ot, .ref mo, .ref xx, .ref yy])), (ta, .inl (cI, 3600, .inl T)), (ot, .inl (cI, 3600, .inl O)), (mo, .inl (cI, 3600, .inl E)), (xx, .inl (cI, 60, .inl xX)), (yy, .inl (cI, 60, .inl yY))] := hD
  refine lv_iconst (v := nI 0) hx hb dX2_build_0 (by decide +kernel) ?_
  refine lv_istore_n (lv' := [(1, .int (nI 0)), (0, .ref o)]) hx hb dX2_build_1 rfl hl (by decide) rfl (fun ls hl => ?_)
  have L2 : ∀ (k2 : Nat) (i : Nat) (O1 : Nat → Int32) (H : Heap) (locs : List Loc) (ls : Array Slot), i + k2 = R → (∀ a b, a < i → b < C → O1 (60 * a + b) = (ms_pl R C M0 P) a b) → va_P D vwCl [(o, .inr (2, [.int (nI K), .int (nI R), .int (nI C), .int (nI np), .ref ta, .ref ot, .ref mo, .ref xx, .ref yy])), (ta, .inl (cI, 3600, .inl T)), (ot, .inl (cI, 3600, .inl O1)), (mo, .inl (cI, 3600, .inl E)), (xx, .inl (cI, 60, .inl xX)), (yy, .inl (cI, 60, .inl yY))] H → va_D A [(o, .inr (2, [.int (nI K), .int (nI R), .int (nI C), .int (nI np), .ref ta, .ref ot, .ref mo, .ref xx, .ref yy])), (ta, .inl (cI, 3600, .inl T)), (ot, .inl (cI, 3600, .inl O1)), (mo, .inl (cI, 3600, .inl E)), (xx, .inl (cI, 60, .inl xX)), (yy, .inl (cI, 60, .inl yY))] → va_S A s.heap H locs → lv_has ls 3 [(1, .int (nI i)), (0, .ref o)] → W p l e rm_2 s m args below meth c H locs 0 0 Q (F0 m 2 ls []) := by
    intro k2
    induction k2 with
    | zero =>
      intro i O1 H locs ls hk2 hO hP hD hS hl
      have hO : ∀ a b, a < R → b < C → O1 (60 * a + b) = (ms_pl R C M0 P) a b := by rw [show i = R by omega] at hO; exact hO
      refine lv_iload_n hx hb dX2_build_2 rfl (lv_at hl 0 rfl) ?_
      refine lv_aload_n hx hb dX2_build_3 rfl (lv_at hl 1 rfl) ?_
      refine va_get (D := D) (ci := 2) (v := .int (nI R)) (C := RX2) (T := TX2) (N := 9) hx hb hts hin2 hown hK hP 0 rfl rfl 1 (by decide) f29 (fun _ h9 => h9) rfl dX2_build_4 ?_
      refine rv_ge_t (tgt := 66) hx hb dX2_build_7 (by decide) (by omega) (by omega) ?_
      refine lv_aload_n hx hb dX2_build_66 rfl (lv_at hl 1 rfl) ?_
      refine rs_cI (As := []) (rest := []) (WR := [(ta, .inl (cI, 3600, .inl T)), (mo, .inl (cI, 3600, .inl E)), (xx, .inl (cI, 60, .inl xX)), (yy, .inl (cI, 60, .inl yY))]) ⟨hx, hb, hml, hown, hts⟩ hl.1 (d_becomes l D cI o K R C np ta ot mo xx yy O1 (by omega) (by omega) b7) (cwV 0 hts gX2_build_X2_becomes rfl rfl rfl (by decide +kernel) ⟨Nat.le_of_ble_eq_true rfl, Nat.le_of_ble_eq_true rfl⟩) hK hP hD hS hA [0, 2] [1, 3, 4, 5] rfl rfl (by decide) (by decide) (by decide) rfl rfl rfl rfl (Nat.le_of_ble_eq_true rfl) dX2_build_67 (Nat.le_of_ble_eq_true rfl) (Nat.le_of_ble_eq_true rfl) (fun r u H locs hu hP hD hS => ?_)
      have hP : va_P D vwCl [(ta, .inl (cI, 3600, .inl T)), (mo, .inl (cI, 3600, .inl E)), (xx, .inl (cI, 60, .inl xX)), (yy, .inl (cI, 60, .inl yY)), (o, .inr (2, [.int (nI K), .int (nI R), .int (nI C), .int (nI np), .ref u.1, .ref u.2, .ref mo, .ref xx, .ref yy])), (ot, .inl (cI, 3600, .inl O1))] H := hP
      have hD : va_D A [(ta, .inl (cI, 3600, .inl T)), (mo, .inl (cI, 3600, .inl E)), (xx, .inl (cI, 60, .inl xX)), (yy, .inl (cI, 60, .inl yY)), (o, .inr (2, [.int (nI K), .int (nI R), .int (nI C), .int (nI np), .ref u.1, .ref u.2, .ref mo, .ref xx, .ref yy])), (ot, .inl (cI, 3600, .inl O1))] := hD
      have ec : ms_sc (fun i j => O1 (60 * i + j)) C R = ms_sc (ms_pl R C M0 P) S R := st_cnt b4 (Nat.le_refl _) (st_pl0) hO
      rw [ec] at hu
      have hsc : ms_sc (ms_pl R C M0 P) S R ≤ 3600 := ms_sc60 (by omega) (by omega)
      rcases hu with ⟨k1, rfl, rfl⟩ | ⟨k1, rfl, rfl⟩
      · have hP : va_P D vwCl [(ta, .inl (cI, 3600, .inl T)), (mo, .inl (cI, 3600, .inl E)), (xx, .inl (cI, 60, .inl xX)), (yy, .inl (cI, 60, .inl yY)), (o, .inr (2, [.int (nI K), .int (nI R), .int (nI C), .int (nI np), .ref ot, .ref ta, .ref mo, .ref xx, .ref yy])), (ot, .inl (cI, 3600, .inl O1))] H := hP
        have hD : va_D A [(ta, .inl (cI, 3600, .inl T)), (mo, .inl (cI, 3600, .inl E)), (xx, .inl (cI, 60, .inl xX)), (yy, .inl (cI, 60, .inl yY)), (o, .inr (2, [.int (nI K), .int (nI R), .int (nI C), .int (nI np), .ref ot, .ref ta, .ref mo, .ref xx, .ref yy])), (ot, .inl (cI, 3600, .inl O1))] := hD
        refine lv_istore_n (lv' := [(1, .int (nI (ms_sc (ms_pl R C M0 P) S R))), (0, .ref o)]) hx hb dX2_build_70 rfl hl (by decide) rfl (fun ls hl => ?_)
        refine lv_iload_n hx hb dX2_build_71 rfl (lv_at hl 0 rfl) ?_
        refine lv_iconst (v := (-1)) hx hb dX2_build_72 (by decide +kernel) ?_
        refine rv_icne_t (tgt := 78) hx hb dX2_build_73 (by decide) (ms_nI_m1 (by omega)) ?_
        refine lv_iconst (v := nI 0) hx hb dX2_build_78 (by decide +kernel) ?_
        refine lv_istore_n (lv' := [(2, .int (nI 0)), (1, .int (nI (ms_sc (ms_pl R C M0 P) S R))), (0, .ref o)]) hx hb dX2_build_79 rfl hl (by decide) rfl (fun ls hl => ?_)
        have L80 : ∀ (k80 : Nat) (k : Nat) (E1 : Nat → Int32) (H : Heap) (locs : List Loc) (ls : Array Slot), k + k80 = 3600 → (∀ t, t < k → E1 t = nI 0) → va_P D vwCl [(o, .inr (2, [.int (nI K), .int (nI R), .int (nI C), .int (nI np), .ref ot, .ref ta, .ref mo, .ref xx, .ref yy])), (ot, .inl (cI, 3600, .inl O1)), (ta, .inl (cI, 3600, .inl T)), (mo, .inl (cI, 3600, .inl E1)), (xx, .inl (cI, 60, .inl xX)), (yy, .inl (cI, 60, .inl yY))] H → va_D A [(o, .inr (2, [.int (nI K), .int (nI R), .int (nI C), .int (nI np), .ref ot, .ref ta, .ref mo, .ref xx, .ref yy])), (ot, .inl (cI, 3600, .inl O1)), (ta, .inl (cI, 3600, .inl T)), (mo, .inl (cI, 3600, .inl E1)), (xx, .inl (cI, 60, .inl xX)), (yy, .inl (cI, 60, .inl yY))] → va_S A s.heap H locs → lv_has ls 3 [(2, .int (nI k)), (1, .int (nI (ms_sc (ms_pl R C M0 P) S R))), (0, .ref o)] → W p l e rm_2 s m args below meth c H locs 0 0 Q (F0 m 80 ls []) := by
          intro k80
          induction k80 with
          | zero =>
            intro k E1 H locs ls hk80 hE1 hP hD hS hl
            refine lv_iload_n hx hb dX2_build_80 rfl (lv_at hl 0 rfl) ?_
            refine lv_sipush (v := nI 3600) hx hb dX2_build_81 (by decide +kernel) ?_
            refine rv_ge_t (tgt := 100) hx hb dX2_build_84 (by decide) (by omega) (by omega) ?_
            refine lv_aload_n hx hb dX2_build_100 rfl (lv_at hl 2 rfl) ?_
            refine lv_iconst (v := nI 0) hx hb dX2_build_101 (by decide +kernel) ?_
            refine va_put (D := D) (ci := 2) (v := .int (nI 0)) (ty := .int) (C := RX2) (T := TX2) (N := 9) hx hb hts hin2 tyX2 tyX2_ok nmX2 hown hK hP hD hS 0 rfl rfl 3 (by decide) f47 (fun _ h9 => h9) rfl (by decide +kernel) rfl rfl (Nat.le_of_ble_eq_true rfl) dX2_build_102 (fun H locs hP hD hS => ?_)
            have hP : va_P D vwCl [(o, .inr (2, [.int (nI K), .int (nI R), .int (nI C), .int (nI 0), .ref ot, .ref ta, .ref mo, .ref xx, .ref yy])), (ot, .inl (cI, 3600, .inl O1)), (ta, .inl (cI, 3600, .inl T)), (mo, .inl (cI, 3600, .inl E1)), (xx, .inl (cI, 60, .inl xX)), (yy, .inl (cI, 60, .inl yY))] H := hP
            have hD : va_D A [(o, .inr (2, [.int (nI K), .int (nI R), .int (nI C), .int (nI 0), .ref ot, .ref ta, .ref mo, .ref xx, .ref yy])), (ot, .inl (cI, 3600, .inl O1)), (ta, .inl (cI, 3600, .inl T)), (mo, .inl (cI, 3600, .inl E1)), (xx, .inl (cI, 60, .inl xX)), (yy, .inl (cI, 60, .inl yY))] := hD
            refine lv_iload_n hx hb dX2_build_105 rfl (lv_at hl 1 rfl) ?_
            exact ret _ _ _ _ _ (((K, R, C, S, 0), (ms_pl R C M0 P), (fun _ _ => 0), X, Y), ((ot, ta), O1, T, (E1, xX, yY))) dX2_build_106 (rfl) (⟨(an_build_t k1).1, (an_build_t k1).2.symm, st_mbuild hr hO (fun t ht => hE1 t (by omega))⟩) (hP.sub [0, 1, 2, 3, 4, 5] rfl) (hD.sub [0, 1, 2, 3, 4, 5] (by decide) rfl) hS
          | succ k80 ih80 =>
            intro k E1 H locs ls hk80 hE1 hP hD hS hl
            refine lv_iload_n hx hb dX2_build_80 rfl (lv_at hl 0 rfl) ?_
            refine lv_sipush (v := nI 3600) hx hb dX2_build_81 (by decide +kernel) ?_
            refine rv_ge_f (tgt := 100) hx hb dX2_build_84 (by decide) (by omega) (by omega) ?_
            refine lv_aload_n hx hb dX2_build_87 rfl (lv_at hl 2 rfl) ?_
            refine va_get (D := D) (ci := 2) (v := .ref mo) (C := RX2) (T := TX2) (N := 9) hx hb hts hin2 hown hK hP 0 rfl rfl 6 (by decide) f16 (fun _ h9 => h9) rfl dX2_build_88 ?_
            refine lv_iload_n hx hb dX2_build_91 rfl (lv_at hl 0 rfl) ?_
            refine lv_iconst (v := nI 0) hx hb dX2_build_92 (by decide +kernel) ?_
            refine rv_iast hx hb hK hP hD hS 3 rfl rfl (by omega) (by omega) dX2_build_93 (fun H locs hP hD hS => ?_)
            have hP : va_P D vwCl [(o, .inr (2, [.int (nI K), .int (nI R), .int (nI C), .int (nI np), .ref ot, .ref ta, .ref mo, .ref xx, .ref yy])), (ot, .inl (cI, 3600, .inl O1)), (ta, .inl (cI, 3600, .inl T)), (mo, .inl (cI, 3600, .inl (upd E1 k (nI 0)))), (xx, .inl (cI, 60, .inl xX)), (yy, .inl (cI, 60, .inl yY))] H := hP
            have hD : va_D A [(o, .inr (2, [.int (nI K), .int (nI R), .int (nI C), .int (nI np), .ref ot, .ref ta, .ref mo, .ref xx, .ref yy])), (ot, .inl (cI, 3600, .inl O1)), (ta, .inl (cI, 3600, .inl T)), (mo, .inl (cI, 3600, .inl (upd E1 k (nI 0)))), (xx, .inl (cI, 60, .inl xX)), (yy, .inl (cI, 60, .inl yY))] := hD
            refine lv_iinc (v := nI (k + 1)) (lv' := [(2, .int (nI (k + 1))), (1, .int (nI (ms_sc (ms_pl R C M0 P) S R))), (0, .ref o)]) hx hb dX2_build_94 hl (k := 0) rfl (rv_inc _) (by decide) rfl (fun ls hl => ?_)
            refine lv_goto (tgt := 80) hx hb dX2_build_97 (by decide) ?_
            exact ih80 (k + 1) (upd E1 k (nI 0)) _ _ _ (by omega) (ms_fillstep hE1) (hP.sub [0, 1, 2, 3, 4, 5] rfl) (hD.sub [0, 1, 2, 3, 4, 5] (by decide) rfl) hS (lv_sub hl [0, 1, 2] rfl)
        exact L80 _ 0 E _ _ _ (Nat.zero_add _) (fun t ht => absurd ht (Nat.not_lt_zero t)) (hP.sub [4, 5, 0, 1, 2, 3] rfl) (hD.sub [4, 5, 0, 1, 2, 3] (by decide) rfl) hS (lv_sub hl [0, 1, 2] rfl)
      · have hP : va_P D vwCl [(ta, .inl (cI, 3600, .inl T)), (mo, .inl (cI, 3600, .inl E)), (xx, .inl (cI, 60, .inl xX)), (yy, .inl (cI, 60, .inl yY)), (o, .inr (2, [.int (nI K), .int (nI R), .int (nI C), .int (nI np), .ref ta, .ref ot, .ref mo, .ref xx, .ref yy])), (ot, .inl (cI, 3600, .inl O1))] H := hP
        have hD : va_D A [(ta, .inl (cI, 3600, .inl T)), (mo, .inl (cI, 3600, .inl E)), (xx, .inl (cI, 60, .inl xX)), (yy, .inl (cI, 60, .inl yY)), (o, .inr (2, [.int (nI K), .int (nI R), .int (nI C), .int (nI np), .ref ta, .ref ot, .ref mo, .ref xx, .ref yy])), (ot, .inl (cI, 3600, .inl O1))] := hD
        refine lv_istore_n (lv' := [(1, .int (-1)), (0, .ref o)]) hx hb dX2_build_70 rfl hl (by decide) rfl (fun ls hl => ?_)
        refine lv_iload_n hx hb dX2_build_71 rfl (lv_at hl 0 rfl) ?_
        refine lv_iconst (v := (-1)) hx hb dX2_build_72 (by decide +kernel) ?_
        refine rv_icne_f (tgt := 78) hx hb dX2_build_73 (by decide) rfl ?_
        refine lv_iconst (v := (-1)) hx hb dX2_build_76 (by decide +kernel) ?_
        exact ret _ _ _ _ _ (((K, R, C, S, np), M0, P, X, Y), ((ta, ot), T, O1, (E, xX, yY))) dX2_build_77 (rfl) (⟨(an_build_f (by omega)).1, (an_build_f (by omega)).2.symm, hr⟩) (hP.sub [4, 0, 5, 1, 2, 3] rfl) (hD.sub [4, 0, 5, 1, 2, 3] (by decide) rfl) hS
    | succ k2 ih2 =>
      intro i O1 H locs ls hk2 hO hP hD hS hl
      refine lv_iload_n hx hb dX2_build_2 rfl (lv_at hl 0 rfl) ?_
      refine lv_aload_n hx hb dX2_build_3 rfl (lv_at hl 1 rfl) ?_
      refine va_get (D := D) (ci := 2) (v := .int (nI R)) (C := RX2) (T := TX2) (N := 9) hx hb hts hin2 hown hK hP 0 rfl rfl 1 (by decide) f29 (fun _ h9 => h9) rfl dX2_build_4 ?_
      refine rv_ge_f (tgt := 66) hx hb dX2_build_7 (by decide) (by omega) (by omega) ?_
      refine lv_iconst (v := nI 0) hx hb dX2_build_10 (by decide +kernel) ?_
      refine lv_istore_n (lv' := [(2, .int (nI 0)), (1, .int (nI i)), (0, .ref o)]) hx hb dX2_build_11 rfl hl (by decide) rfl (fun ls hl => ?_)
      have L12 : ∀ (k12 : Nat) (j : Nat) (O2 : Nat → Int32) (H : Heap) (locs : List Loc) (ls : Array Slot), j + k12 = C → (∀ a b, a < i → b < C → O2 (60 * a + b) = (ms_pl R C M0 P) a b) → (∀ b, b < j → O2 (60 * i + b) = (ms_pl R C M0 P) i b) → va_P D vwCl [(o, .inr (2, [.int (nI K), .int (nI R), .int (nI C), .int (nI np), .ref ta, .ref ot, .ref mo, .ref xx, .ref yy])), (ta, .inl (cI, 3600, .inl T)), (ot, .inl (cI, 3600, .inl O2)), (mo, .inl (cI, 3600, .inl E)), (xx, .inl (cI, 60, .inl xX)), (yy, .inl (cI, 60, .inl yY))] H → va_D A [(o, .inr (2, [.int (nI K), .int (nI R), .int (nI C), .int (nI np), .ref ta, .ref ot, .ref mo, .ref xx, .ref yy])), (ta, .inl (cI, 3600, .inl T)), (ot, .inl (cI, 3600, .inl O2)), (mo, .inl (cI, 3600, .inl E)), (xx, .inl (cI, 60, .inl xX)), (yy, .inl (cI, 60, .inl yY))] → va_S A s.heap H locs → lv_has ls 3 [(2, .int (nI j)), (1, .int (nI i)), (0, .ref o)] → W p l e rm_2 s m args below meth c H locs 0 0 Q (F0 m 12 ls []) := by
        intro k12
        induction k12 with
        | zero =>
          intro j O2 H locs ls hk12 h1 h2 hP hD hS hl
          refine lv_iload_n hx hb dX2_build_12 rfl (lv_at hl 0 rfl) ?_
          refine lv_aload_n hx hb dX2_build_13 rfl (lv_at hl 2 rfl) ?_
          refine va_get (D := D) (ci := 2) (v := .int (nI C)) (C := RX2) (T := TX2) (N := 9) hx hb hts hin2 hown hK hP 0 rfl rfl 2 (by decide) f33 (fun _ h9 => h9) rfl dX2_build_14 ?_
          refine rv_ge_t (tgt := 60) hx hb dX2_build_17 (by decide) (by omega) (by omega) ?_
          refine lv_iinc (v := nI (i + 1)) (lv' := [(1, .int (nI (i + 1))), (2, .int (nI j)), (0, .ref o)]) hx hb dX2_build_60 hl (k := 1) rfl (rv_inc _) (by decide) rfl (fun ls hl => ?_)
          refine lv_goto (tgt := 2) hx hb dX2_build_63 (by decide) ?_
          exact ih2 (i + 1) O2 _ _ _ (by omega) (ms_gridrow (show j = C by omega) h1 h2) (hP.sub [0, 1, 2, 3, 4, 5] rfl) (hD.sub [0, 1, 2, 3, 4, 5] (by decide) rfl) hS (lv_sub hl [0, 2] rfl)
        | succ k12 ih12 =>
          intro j O2 H locs ls hk12 h1 h2 hP hD hS hl
          have hx1 : M0 i j + P i j = (ms_pl R C M0 P) i j := (if_pos ⟨by omega, by omega⟩).symm
          refine lv_iload_n hx hb dX2_build_12 rfl (lv_at hl 0 rfl) ?_
          refine lv_aload_n hx hb dX2_build_13 rfl (lv_at hl 2 rfl) ?_
          refine va_get (D := D) (ci := 2) (v := .int (nI C)) (C := RX2) (T := TX2) (N := 9) hx hb hts hin2 hown hK hP 0 rfl rfl 2 (by decide) f33 (fun _ h9 => h9) rfl dX2_build_14 ?_
          refine rv_ge_f (tgt := 60) hx hb dX2_build_17 (by decide) (by omega) (by omega) ?_
          refine lv_aload_n hx hb dX2_build_20 rfl (lv_at hl 2 rfl) ?_
          refine va_get (D := D) (ci := 2) (v := .ref ot) (C := RX2) (T := TX2) (N := 9) hx hb hts hin2 hown hK hP 0 rfl rfl 5 (by decide) f13 (fun _ h9 => h9) rfl dX2_build_21 ?_
          refine lv_bipush (v := nI 60) hx hb dX2_build_24 (by decide +kernel) ?_
          refine lv_iload_n hx hb dX2_build_26 rfl (lv_at hl 1 rfl) ?_
          refine rv_imul hx hb dX2_build_27 ?_
          refine lv_iload_n hx hb dX2_build_28 rfl (lv_at hl 0 rfl) ?_
          refine rv_iadd hx hb dX2_build_29 ?_
          refine lv_aload_n hx hb dX2_build_30 rfl (lv_at hl 2 rfl) ?_
          refine va_get (D := D) (ci := 2) (v := .ref ta) (C := RX2) (T := TX2) (N := 9) hx hb hts hin2 hown hK hP 0 rfl rfl 4 (by decide) f7 (fun _ h9 => h9) rfl dX2_build_31 ?_
          refine lv_bipush (v := nI 60) hx hb dX2_build_34 (by decide +kernel) ?_
          refine lv_iload_n hx hb dX2_build_36 rfl (lv_at hl 1 rfl) ?_
          refine rv_imul hx hb dX2_build_37 ?_
          refine lv_iload_n hx hb dX2_build_38 rfl (lv_at hl 0 rfl) ?_
          refine rv_iadd hx hb dX2_build_39 ?_
          refine rv_iald hx hb hK hP 1 rfl rfl (by omega) (by omega) dX2_build_40 ?_
          refine rv_top (hT i j (by omega) (by omega)) ?_
          refine lv_aload_n hx hb dX2_build_41 rfl (lv_at hl 2 rfl) ?_
          refine va_get (D := D) (ci := 2) (v := .ref mo) (C := RX2) (T := TX2) (N := 9) hx hb hts hin2 hown hK hP 0 rfl rfl 6 (by decide) f16 (fun _ h9 => h9) rfl dX2_build_42 ?_
          refine lv_bipush (v := nI 60) hx hb dX2_build_45 (by decide +kernel) ?_
          refine lv_iload_n hx hb dX2_build_47 rfl (lv_at hl 1 rfl) ?_
          refine rv_imul hx hb dX2_build_48 ?_
          refine lv_iload_n hx hb dX2_build_49 rfl (lv_at hl 0 rfl) ?_
          refine rv_iadd hx hb dX2_build_50 ?_
          refine rv_iald hx hb hK hP 3 rfl rfl (by omega) (by omega) dX2_build_51 ?_
          refine rv_top (hE i j (by omega) (by omega)) ?_
          refine lv_iadd hx hb dX2_build_52 ?_
          refine rv_iast hx hb hK hP hD hS 2 rfl rfl (by omega) (by omega) dX2_build_53 (fun H locs hP hD hS => ?_)
          have hP : va_P D vwCl [(o, .inr (2, [.int (nI K), .int (nI R), .int (nI C), .int (nI np), .ref ta, .ref ot, .ref mo, .ref xx, .ref yy])), (ta, .inl (cI, 3600, .inl T)), (ot, .inl (cI, 3600, .inl (upd O2 (60 * i + j) ((M0 i j) + (P i j))))), (mo, .inl (cI, 3600, .inl E)), (xx, .inl (cI, 60, .inl xX)), (yy, .inl (cI, 60, .inl yY))] H := hP
          have hD : va_D A [(o, .inr (2, [.int (nI K), .int (nI R), .int (nI C), .int (nI np), .ref ta, .ref ot, .ref mo, .ref xx, .ref yy])), (ta, .inl (cI, 3600, .inl T)), (ot, .inl (cI, 3600, .inl (upd O2 (60 * i + j) ((M0 i j) + (P i j))))), (mo, .inl (cI, 3600, .inl E)), (xx, .inl (cI, 60, .inl xX)), (yy, .inl (cI, 60, .inl yY))] := hD
          refine lv_iinc (v := nI (j + 1)) (lv' := [(2, .int (nI (j + 1))), (1, .int (nI i)), (0, .ref o)]) hx hb dX2_build_54 hl (k := 0) rfl (rv_inc _) (by decide) rfl (fun ls hl => ?_)
          refine lv_goto (tgt := 12) hx hb dX2_build_57 (by decide) ?_
          exact ih12 (j + 1) (upd O2 (60 * i + j) ((M0 i j) + (P i j))) _ _ _ (by omega) ((ms_grid (by omega) (show j < C by omega) h1 h2 hx1).1) ((ms_grid (by omega) (show j < C by omega) h1 h2 hx1).2) (hP.sub [0, 1, 2, 3, 4, 5] rfl) (hD.sub [0, 1, 2, 3, 4, 5] (by decide) rfl) hS (lv_sub hl [0, 1, 2] rfl)
      exact L12 _ 0 O1 _ _ _ (Nat.zero_add _) (hO) (fun b hb => absurd hb (Nat.not_lt_zero b)) (hP.sub [0, 1, 2, 3, 4, 5] rfl) (hD.sub [0, 1, 2, 3, 4, 5] (by decide) rfl) hS (lv_sub hl [0, 1, 2] rfl)
  exact L2 _ 0 O _ _ _ (Nat.zero_add _) (fun a b ha => absurd ha (Nat.not_lt_zero a)) (hP.sub [0, 1, 2, 3, 4, 5] rfl) (hD.sub [0, 1, 2, 3, 4, 5] (by decide) rfl) hS (lv_sub hl [0, 1] rfl)

set_option maxHeartbeats 4000000 in
set_option maxRecDepth 100000 in
theorem d_square (l : Launch) (D : va_G) (cI : ClassId) (o mo xx yy : Nat) (a : st_A) (u : st_M) (hr : st_rm a u)  : MetI l yX2_square wsX2_square rm_2 D [(cI, .int)] [.ref o] (st_wM cI o mo xx yy a u) (fun (r : Int32) (x : st_A × st_M) => r = an_square a ∧ x.1 = up_square a ∧ st_rm x.1 x.2) (fun x => st_wM cI o mo xx yy x.1 x.2) 0 0 := by
  obtain ⟨⟨K, R, C, S, np⟩, M0, P, X, Y⟩ := a
  obtain ⟨⟨ta, ot⟩, T, O, E, xX, yY⟩ := u
  have hr : st_RM K R C S np M0 P X Y T E xX yY := hr
  obtain ⟨⟨⟨b1, b2, b3, b4, b5, b6, b7, b8⟩, hM⟩, hT, hE, hz0, hX, hY⟩ := id hr
  refine rs_I (cc := cX2_square) (maxL := 5) (rty := .int) (by decide) rfl (Nat.le_of_ble_eq_true rfl) ?_
  intro p e s m args below meth c Q A ls hx hb hml hown hts hP hK hD hS hA hl ret
  have f7 := hts (.fieldLink RX2 7 "RowSparseModel" "table" "[I") (by decide +kernel)
  have f13 := hts (.fieldLink RX2 13 "RowSparseModel" "other" "[I") (by decide +kernel)
  have f29 := hts (.fieldLink RX2 29 "RowSparseModel" "rows" "I") (by decide +kernel)
  have f33 := hts (.fieldLink RX2 33 "RowSparseModel" "cols" "I") (by decide +kernel)
  have hin2 : ∀ w ∈ u_ws RX2 TX2 9, w ∈ wsX2_square := by decide +kernel
  have hl : lv_has ls 5 [(0, .ref o)] := hl
  have hP : va_P D vwCl [(o, .inr (2, [.int (nI K), .int (nI R), .int (nI C), .int (nI np), .ref ta, .ref ot, .ref mo, .ref xx, .ref yy])), (ta, .inl (cI, 3600, .inl T)), (ot, .inl (cI, 3600, .inl O)), (mo, .inl (cI, 3600, .inl E)), (xx, .inl (cI, 60, .inl xX)), (yy, .inl (cI, 60, .inl yY))] s.heap := hP
  have hD : va_D A [(o, .inr (2, [.int (nI K), .int (nI R), .int (nI C), .int (nI np), .ref ta, .ref ot, .ref mo, .ref xx, .ref yy])), (ta, .inl (cI, 3600, .inl T)), (ot, .inl (cI, 3600, .inl O)), (mo, .inl (cI, 3600, .inl E)), (xx, .inl (cI, 60, .inl xX)), (yy, .inl (cI, 60, .inl yY))] := hD
  refine lv_aload_n hx hb dX2_square_0 rfl (lv_at hl 0 rfl) ?_
  refine va_get (D := D) (ci := 2) (v := .int (nI R)) (C := RX2) (T := TX2) (N := 9) hx hb hts hin2 hown hK hP 0 rfl rfl 1 (by decide) f29 (fun _ h9 => h9) rfl dX2_square_1 ?_
  refine lv_aload_n hx hb dX2_square_4 rfl (lv_at hl 0 rfl) ?_
  refine va_get (D := D) (ci := 2) (v := .int (nI C)) (C := RX2) (T := TX2) (N := 9) hx hb hts hin2 hown hK hP 0 rfl rfl 2 (by decide) f33 (fun _ h9 => h9) rfl dX2_square_5 ?_
  refine rv_eq (tgt := 14) hx hb dX2_square_8 (by decide) (by omega) (by omega) (fun hRC => ?_) (fun hRC => ?_)
  · refine lv_iconst (v := nI 0) hx hb dX2_square_14 (by decide +kernel) ?_
    refine lv_istore_n (lv' := [(1, .int (nI 0)), (0, .ref o)]) hx hb dX2_square_15 rfl hl (by decide) rfl (fun ls hl => ?_)
    have L16 : ∀ (k16 : Nat) (i : Nat) (O1 : Nat → Int32) (H : Heap) (locs : List Loc) (ls : Array Slot), i + k16 = R → (∀ a b, a < i → b < C → O1 (60 * a + b) = (ms_sq S M0) a b) → va_P D vwCl [(o, .inr (2, [.int (nI K), .int (nI R), .int (nI C), .int (nI np), .ref ta, .ref ot, .ref mo, .ref xx, .ref yy])), (ta, .inl (cI, 3600, .inl T)), (ot, .inl (cI, 3600, .inl O1)), (mo, .inl (cI, 3600, .inl E)), (xx, .inl (cI, 60, .inl xX)), (yy, .inl (cI, 60, .inl yY))] H → va_D A [(o, .inr (2, [.int (nI K), .int (nI R), .int (nI C), .int (nI np), .ref ta, .ref ot, .ref mo, .ref xx, .ref yy])), (ta, .inl (cI, 3600, .inl T)), (ot, .inl (cI, 3600, .inl O1)), (mo, .inl (cI, 3600, .inl E)), (xx, .inl (cI, 60, .inl xX)), (yy, .inl (cI, 60, .inl yY))] → va_S A s.heap H locs → lv_has ls 5 [(1, .int (nI i)), (0, .ref o)] → W p l e rm_2 s m args below meth c H locs 0 0 Q (F0 m 16 ls []) := by
      intro k16
      induction k16 with
      | zero =>
        intro i O1 H locs ls hk16 hO hP hD hS hl
        have hO : ∀ a b, a < R → b < C → O1 (60 * a + b) = (ms_sq S M0) a b := by rw [show i = R by omega] at hO; exact hO
        refine lv_iload_n hx hb dX2_square_16 rfl (lv_at hl 0 rfl) ?_
        refine lv_aload_n hx hb dX2_square_17 rfl (lv_at hl 1 rfl) ?_
        refine va_get (D := D) (ci := 2) (v := .int (nI R)) (C := RX2) (T := TX2) (N := 9) hx hb hts hin2 hown hK hP 0 rfl rfl 1 (by decide) f29 (fun _ h9 => h9) rfl dX2_square_18 ?_
        refine rv_ge_t (tgt := 106) hx hb dX2_square_21 (by decide) (by omega) (by omega) ?_
        refine lv_aload_n hx hb dX2_square_106 rfl (lv_at hl 1 rfl) ?_
        refine rs_cI (As := []) (rest := []) (WR := [(ta, .inl (cI, 3600, .inl T)), (mo, .inl (cI, 3600, .inl E)), (xx, .inl (cI, 60, .inl xX)), (yy, .inl (cI, 60, .inl yY))]) ⟨hx, hb, hml, hown, hts⟩ hl.1 (d_becomes l D cI o K R C np ta ot mo xx yy O1 (by omega) (by omega) b7) (cwV 0 hts gX2_square_X2_becomes rfl rfl rfl (by decide +kernel) ⟨Nat.le_of_ble_eq_true rfl, Nat.le_of_ble_eq_true rfl⟩) hK hP hD hS hA [0, 2] [1, 3, 4, 5] rfl rfl (by decide) (by decide) (by decide) rfl rfl rfl rfl (Nat.le_of_ble_eq_true rfl) dX2_square_107 (Nat.le_of_ble_eq_true rfl) (Nat.le_of_ble_eq_true rfl) (fun r u H locs hu hP hD hS => ?_)
        have hP : va_P D vwCl [(ta, .inl (cI, 3600, .inl T)), (mo, .inl (cI, 3600, .inl E)), (xx, .inl (cI, 60, .inl xX)), (yy, .inl (cI, 60, .inl yY)), (o, .inr (2, [.int (nI K), .int (nI R), .int (nI C), .int (nI np), .ref u.1, .ref u.2, .ref mo, .ref xx, .ref yy])), (ot, .inl (cI, 3600, .inl O1))] H := hP
        have hD : va_D A [(ta, .inl (cI, 3600, .inl T)), (mo, .inl (cI, 3600, .inl E)), (xx, .inl (cI, 60, .inl xX)), (yy, .inl (cI, 60, .inl yY)), (o, .inr (2, [.int (nI K), .int (nI R), .int (nI C), .int (nI np), .ref u.1, .ref u.2, .ref mo, .ref xx, .ref yy])), (ot, .inl (cI, 3600, .inl O1))] := hD
        have ec : ms_sc (fun i j => O1 (60 * i + j)) C R = ms_sc (ms_sq S M0) S R := st_cnt b4 (Nat.le_refl _) (st_sq0 hM) hO
        rw [ec] at hu
        have hsc : ms_sc (ms_sq S M0) S R ≤ 3600 := ms_sc60 (by omega) (by omega)
        rcases hu with ⟨k1, rfl, rfl⟩ | ⟨k1, rfl, rfl⟩
        · have hP : va_P D vwCl [(ta, .inl (cI, 3600, .inl T)), (mo, .inl (cI, 3600, .inl E)), (xx, .inl (cI, 60, .inl xX)), (yy, .inl (cI, 60, .inl yY)), (o, .inr (2, [.int (nI K), .int (nI R), .int (nI C), .int (nI np), .ref ot, .ref ta, .ref mo, .ref xx, .ref yy])), (ot, .inl (cI, 3600, .inl O1))] H := hP
          have hD : va_D A [(ta, .inl (cI, 3600, .inl T)), (mo, .inl (cI, 3600, .inl E)), (xx, .inl (cI, 60, .inl xX)), (yy, .inl (cI, 60, .inl yY)), (o, .inr (2, [.int (nI K), .int (nI R), .int (nI C), .int (nI np), .ref ot, .ref ta, .ref mo, .ref xx, .ref yy])), (ot, .inl (cI, 3600, .inl O1))] := hD
          exact ret _ _ _ _ _ (((K, R, C, S, np), (ms_sq S M0), P, X, Y), ((ot, ta), O1, T, (E, xX, yY))) dX2_square_110 (rfl) (⟨(an_square_t hRC k1).1, (an_square_t hRC k1).2.symm, st_msquare hr hO⟩) (hP.sub [4, 5, 0, 1, 2, 3] rfl) (hD.sub [4, 5, 0, 1, 2, 3] (by decide) rfl) hS
        · have hP : va_P D vwCl [(ta, .inl (cI, 3600, .inl T)), (mo, .inl (cI, 3600, .inl E)), (xx, .inl (cI, 60, .inl xX)), (yy, .inl (cI, 60, .inl yY)), (o, .inr (2, [.int (nI K), .int (nI R), .int (nI C), .int (nI np), .ref ta, .ref ot, .ref mo, .ref xx, .ref yy])), (ot, .inl (cI, 3600, .inl O1))] H := hP
          have hD : va_D A [(ta, .inl (cI, 3600, .inl T)), (mo, .inl (cI, 3600, .inl E)), (xx, .inl (cI, 60, .inl xX)), (yy, .inl (cI, 60, .inl yY)), (o, .inr (2, [.int (nI K), .int (nI R), .int (nI C), .int (nI np), .ref ta, .ref ot, .ref mo, .ref xx, .ref yy])), (ot, .inl (cI, 3600, .inl O1))] := hD
          exact ret _ _ _ _ _ (((K, R, C, S, np), M0, P, X, Y), ((ta, ot), T, O1, (E, xX, yY))) dX2_square_110 (rfl) (⟨(an_square_f hRC (by omega)).1, (an_square_f hRC (by omega)).2.symm, hr⟩) (hP.sub [4, 0, 5, 1, 2, 3] rfl) (hD.sub [4, 0, 5, 1, 2, 3] (by decide) rfl) hS
      | succ k16 ih16 =>
        intro i O1 H locs ls hk16 hO hP hD hS hl
        refine lv_iload_n hx hb dX2_square_16 rfl (lv_at hl 0 rfl) ?_
        refine lv_aload_n hx hb dX2_square_17 rfl (lv_at hl 1 rfl) ?_
        refine va_get (D := D) (ci := 2) (v := .int (nI R)) (C := RX2) (T := TX2) (N := 9) hx hb hts hin2 hown hK hP 0 rfl rfl 1 (by decide) f29 (fun _ h9 => h9) rfl dX2_square_18 ?_
        refine rv_ge_f (tgt := 106) hx hb dX2_square_21 (by decide) (by omega) (by omega) ?_
        refine lv_iconst (v := nI 0) hx hb dX2_square_24 (by decide +kernel) ?_
        refine lv_istore_n (lv' := [(2, .int (nI 0)), (1, .int (nI i)), (0, .ref o)]) hx hb dX2_square_25 rfl hl (by decide) rfl (fun ls hl => ?_)
        have L26 : ∀ (k26 : Nat) (j : Nat) (O2 : Nat → Int32) (H : Heap) (locs : List Loc) (ls : Array Slot), j + k26 = C → (∀ a b, a < i → b < C → O2 (60 * a + b) = (ms_sq S M0) a b) → (∀ b, b < j → O2 (60 * i + b) = (ms_sq S M0) i b) → va_P D vwCl [(o, .inr (2, [.int (nI K), .int (nI R), .int (nI C), .int (nI np), .ref ta, .ref ot, .ref mo, .ref xx, .ref yy])), (ta, .inl (cI, 3600, .inl T)), (ot, .inl (cI, 3600, .inl O2)), (mo, .inl (cI, 3600, .inl E)), (xx, .inl (cI, 60, .inl xX)), (yy, .inl (cI, 60, .inl yY))] H → va_D A [(o, .inr (2, [.int (nI K), .int (nI R), .int (nI C), .int (nI np), .ref ta, .ref ot, .ref mo, .ref xx, .ref yy])), (ta, .inl (cI, 3600, .inl T)), (ot, .inl (cI, 3600, .inl O2)), (mo, .inl (cI, 3600, .inl E)), (xx, .inl (cI, 60, .inl xX)), (yy, .inl (cI, 60, .inl yY))] → va_S A s.heap H locs → lv_has ls 5 [(2, .int (nI j)), (1, .int (nI i)), (0, .ref o)] → W p l e rm_2 s m args below meth c H locs 0 0 Q (F0 m 26 ls []) := by
          intro k26
          induction k26 with
          | zero =>
            intro j O2 H locs ls hk26 h1 h2 hP hD hS hl
            refine lv_iload_n hx hb dX2_square_26 rfl (lv_at hl 0 rfl) ?_
            refine lv_aload_n hx hb dX2_square_27 rfl (lv_at hl 2 rfl) ?_
            refine va_get (D := D) (ci := 2) (v := .int (nI C)) (C := RX2) (T := TX2) (N := 9) hx hb hts hin2 hown hK hP 0 rfl rfl 2 (by decide) f33 (fun _ h9 => h9) rfl dX2_square_28 ?_
            refine rv_ge_t (tgt := 100) hx hb dX2_square_31 (by decide) (by omega) (by omega) ?_
            refine lv_iinc (v := nI (i + 1)) (lv' := [(1, .int (nI (i + 1))), (2, .int (nI j)), (0, .ref o)]) hx hb dX2_square_100 hl (k := 1) rfl (rv_inc _) (by decide) rfl (fun ls hl => ?_)
            refine lv_goto (tgt := 16) hx hb dX2_square_103 (by decide) ?_
            exact ih16 (i + 1) O2 _ _ _ (by omega) (ms_gridrow (show j = C by omega) h1 h2) (hP.sub [0, 1, 2, 3, 4, 5] rfl) (hD.sub [0, 1, 2, 3, 4, 5] (by decide) rfl) hS (lv_sub hl [0, 2] rfl)
          | succ k26 ih26 =>
            intro j O2 H locs ls hk26 h1 h2 hP hD hS hl
            refine lv_iload_n hx hb dX2_square_26 rfl (lv_at hl 0 rfl) ?_
            refine lv_aload_n hx hb dX2_square_27 rfl (lv_at hl 2 rfl) ?_
            refine va_get (D := D) (ci := 2) (v := .int (nI C)) (C := RX2) (T := TX2) (N := 9) hx hb hts hin2 hown hK hP 0 rfl rfl 2 (by decide) f33 (fun _ h9 => h9) rfl dX2_square_28 ?_
            refine rv_ge_f (tgt := 100) hx hb dX2_square_31 (by decide) (by omega) (by omega) ?_
            refine lv_iconst (v := nI 0) hx hb dX2_square_34 (by decide +kernel) ?_
            refine lv_istore_n (lv' := [(3, .int (nI 0)), (2, .int (nI j)), (1, .int (nI i)), (0, .ref o)]) hx hb dX2_square_35 rfl hl (by decide) rfl (fun ls hl => ?_)
            refine lv_iconst (v := nI 0) hx hb dX2_square_36 (by decide +kernel) ?_
            refine lv_istore (lv' := [(4, .int (nI 0)), (3, .int (nI 0)), (2, .int (nI j)), (1, .int (nI i)), (0, .ref o)]) hx hb dX2_square_37 hl (by decide) rfl (fun ls hl => ?_)
            have L39 : ∀ (k39 : Nat) (k : Nat) (v : Int32) (ls : Array Slot), k + k39 = C → v = ms_sm (fun k => M0 i k * M0 k j) k → lv_has ls 5 [(4, .int (nI k)), (3, .int v), (2, .int (nI j)), (1, .int (nI i)), (0, .ref o)] → W p l e rm_2 s m args below meth c H locs 0 0 Q (F0 m 39 ls []) := by
              intro k39
              induction k39 with
              | zero =>
                intro k v ls hk39 hv hl
                have hx1 : v = (ms_sq S M0) i j := by rw [hv, show k = C by omega]; exact st_sqwide b4 hM
                refine lv_iload hx hb dX2_square_39 (lv_at hl 0 rfl) ?_
                refine lv_aload_n hx hb dX2_square_41 rfl (lv_at hl 4 rfl) ?_
                refine va_get (D := D) (ci := 2) (v := .int (nI C)) (C := RX2) (T := TX2) (N := 9) hx hb hts hin2 hown hK hP 0 rfl rfl 2 (by decide) f33 (fun _ h9 => h9) rfl dX2_square_42 ?_
                refine rv_ge_t (tgt := 82) hx hb dX2_square_45 (by decide) (by omega) (by omega) ?_
                refine lv_aload_n hx hb dX2_square_82 rfl (lv_at hl 4 rfl) ?_
                refine va_get (D := D) (ci := 2) (v := .ref ot) (C := RX2) (T := TX2) (N := 9) hx hb hts hin2 hown hK hP 0 rfl rfl 5 (by decide) f13 (fun _ h9 => h9) rfl dX2_square_83 ?_
                refine lv_bipush (v := nI 60) hx hb dX2_square_86 (by decide +kernel) ?_
                refine lv_iload_n hx hb dX2_square_88 rfl (lv_at hl 3 rfl) ?_
                refine rv_imul hx hb dX2_square_89 ?_
                refine lv_iload_n hx hb dX2_square_90 rfl (lv_at hl 2 rfl) ?_
                refine rv_iadd hx hb dX2_square_91 ?_
                refine lv_iload_n hx hb dX2_square_92 rfl (lv_at hl 1 rfl) ?_
                refine rv_iast hx hb hK hP hD hS 2 rfl rfl (by omega) (by omega) dX2_square_93 (fun H locs hP hD hS => ?_)
                have hP : va_P D vwCl [(o, .inr (2, [.int (nI K), .int (nI R), .int (nI C), .int (nI np), .ref ta, .ref ot, .ref mo, .ref xx, .ref yy])), (ta, .inl (cI, 3600, .inl T)), (ot, .inl (cI, 3600, .inl (upd O2 (60 * i + j) v))), (mo, .inl (cI, 3600, .inl E)), (xx, .inl (cI, 60, .inl xX)), (yy, .inl (cI, 60, .inl yY))] H := hP
                have hD : va_D A [(o, .inr (2, [.int (nI K), .int (nI R), .int (nI C), .int (nI np), .ref ta, .ref ot, .ref mo, .ref xx, .ref yy])), (ta, .inl (cI, 3600, .inl T)), (ot, .inl (cI, 3600, .inl (upd O2 (60 * i + j) v))), (mo, .inl (cI, 3600, .inl E)), (xx, .inl (cI, 60, .inl xX)), (yy, .inl (cI, 60, .inl yY))] := hD
                refine lv_iinc (v := nI (j + 1)) (lv' := [(2, .int (nI (j + 1))), (4, .int (nI k)), (3, .int v), (1, .int (nI i)), (0, .ref o)]) hx hb dX2_square_94 hl (k := 2) rfl (rv_inc _) (by decide) rfl (fun ls hl => ?_)
                refine lv_goto (tgt := 26) hx hb dX2_square_97 (by decide) ?_
                exact ih26 (j + 1) (upd O2 (60 * i + j) v) _ _ _ (by omega) ((ms_grid (by omega) (show j < C by omega) h1 h2 hx1).1) ((ms_grid (by omega) (show j < C by omega) h1 h2 hx1).2) (hP.sub [0, 1, 2, 3, 4, 5] rfl) (hD.sub [0, 1, 2, 3, 4, 5] (by decide) rfl) hS (lv_sub hl [0, 3, 4] rfl)
              | succ k39 ih39 =>
                intro k v ls hk39 hv hl
                refine lv_iload hx hb dX2_square_39 (lv_at hl 0 rfl) ?_
                refine lv_aload_n hx hb dX2_square_41 rfl (lv_at hl 4 rfl) ?_
                refine va_get (D := D) (ci := 2) (v := .int (nI C)) (C := RX2) (T := TX2) (N := 9) hx hb hts hin2 hown hK hP 0 rfl rfl 2 (by decide) f33 (fun _ h9 => h9) rfl dX2_square_42 ?_
                refine rv_ge_f (tgt := 82) hx hb dX2_square_45 (by decide) (by omega) (by omega) ?_
                refine lv_iload_n hx hb dX2_square_48 rfl (lv_at hl 1 rfl) ?_
                refine lv_aload_n hx hb dX2_square_49 rfl (lv_at hl 4 rfl) ?_
                refine va_get (D := D) (ci := 2) (v := .ref ta) (C := RX2) (T := TX2) (N := 9) hx hb hts hin2 hown hK hP 0 rfl rfl 4 (by decide) f7 (fun _ h9 => h9) rfl dX2_square_50 ?_
                refine lv_bipush (v := nI 60) hx hb dX2_square_53 (by decide +kernel) ?_
                refine lv_iload_n hx hb dX2_square_55 rfl (lv_at hl 3 rfl) ?_
                refine rv_imul hx hb dX2_square_56 ?_
                refine lv_iload hx hb dX2_square_57 (lv_at hl 0 rfl) ?_
                refine rv_iadd hx hb dX2_square_59 ?_
                refine rv_iald hx hb hK hP 1 rfl rfl (by omega) (by omega) dX2_square_60 ?_
                refine rv_top (hT i k (by omega) (by omega)) ?_
                refine lv_aload_n hx hb dX2_square_61 rfl (lv_at hl 4 rfl) ?_
                refine va_get (D := D) (ci := 2) (v := .ref ta) (C := RX2) (T := TX2) (N := 9) hx hb hts hin2 hown hK hP 0 rfl rfl 4 (by decide) f7 (fun _ h9 => h9) rfl dX2_square_62 ?_
                refine lv_bipush (v := nI 60) hx hb dX2_square_65 (by decide +kernel) ?_
                refine lv_iload hx hb dX2_square_67 (lv_at hl 0 rfl) ?_
                refine rv_imul hx hb dX2_square_69 ?_
                refine lv_iload_n hx hb dX2_square_70 rfl (lv_at hl 2 rfl) ?_
                refine rv_iadd hx hb dX2_square_71 ?_
                refine rv_iald hx hb hK hP 1 rfl rfl (by omega) (by omega) dX2_square_72 ?_
                refine rv_top (hT k j (by omega) (by omega)) ?_
                refine lv_imul hx hb dX2_square_73 ?_
                refine lv_iadd hx hb dX2_square_74 ?_
                refine lv_istore_n (lv' := [(3, .int (v + ((M0 i k) * (M0 k j)))), (4, .int (nI k)), (2, .int (nI j)), (1, .int (nI i)), (0, .ref o)]) hx hb dX2_square_75 rfl hl (by decide) rfl (fun ls hl => ?_)
                refine lv_iinc (v := nI (k + 1)) (lv' := [(4, .int (nI (k + 1))), (3, .int (v + ((M0 i k) * (M0 k j)))), (2, .int (nI j)), (1, .int (nI i)), (0, .ref o)]) hx hb dX2_square_76 hl (k := 1) rfl (rv_inc _) (by decide) rfl (fun ls hl => ?_)
                refine lv_goto (tgt := 39) hx hb dX2_square_79 (by decide) ?_
                exact ih39 (k + 1) (v + ((M0 i k) * (M0 k j))) _ (by omega) (by rw [hv]; rfl) (lv_sub hl [0, 1, 2, 3, 4] rfl)
            exact L39 _ 0 (nI 0) _ (Nat.zero_add _) (ms_nz) (lv_sub hl [0, 1, 2, 3, 4] rfl)
        exact L26 _ 0 O1 _ _ _ (Nat.zero_add _) (hO) (fun b hb => absurd hb (Nat.not_lt_zero b)) (hP.sub [0, 1, 2, 3, 4, 5] rfl) (hD.sub [0, 1, 2, 3, 4, 5] (by decide) rfl) hS (lv_sub hl [0, 1, 2] rfl)
    exact L16 _ 0 O _ _ _ (Nat.zero_add _) (fun a b ha => absurd ha (Nat.not_lt_zero a)) (hP.sub [0, 1, 2, 3, 4, 5] rfl) (hD.sub [0, 1, 2, 3, 4, 5] (by decide) rfl) hS (lv_sub hl [0, 1] rfl)
  · refine lv_bipush (v := (-2)) hx hb dX2_square_11 (by decide +kernel) ?_
    exact ret _ _ _ _ _ (((K, R, C, S, np), M0, P, X, Y), ((ta, ot), T, O, (E, xX, yY))) dX2_square_13 (rfl) (⟨(an_square_n hRC).1, (an_square_n hRC).2.symm, hr⟩) (hP.sub [0, 1, 2, 3, 4, 5] rfl) (hD.sub [0, 1, 2, 3, 4, 5] (by decide) rfl) hS

set_option maxHeartbeats 4000000 in
set_option maxRecDepth 100000 in
theorem d_transpose (l : Launch) (D : va_G) (cI : ClassId) (o mo xx yy : Nat) (a : st_A) (u : st_M) (hr : st_rm a u)  : MetI l yX2_transpose wsX2_transpose rm_1 D [(cI, .int)] [.ref o] (st_wM cI o mo xx yy a u) (fun (r : Int32) (x : st_A × st_M) => r = an_turn a ∧ x.1 = up_turn a ∧ st_rm x.1 x.2) (fun x => st_wM cI o mo xx yy x.1 x.2) 0 0 := by
  obtain ⟨⟨K, R, C, S, np⟩, M0, P, X, Y⟩ := a
  obtain ⟨⟨ta, ot⟩, T, O, E, xX, yY⟩ := u
  have hr : st_RM K R C S np M0 P X Y T E xX yY := hr
  obtain ⟨⟨⟨b1, b2, b3, b4, b5, b6, b7, b8⟩, hM⟩, hT, hE, hz0, hX, hY⟩ := id hr
  refine rs_I (cc := cX2_transpose) (maxL := 3) (rty := .boolean) (by decide) rfl (Nat.le_of_ble_eq_true rfl) ?_
  intro p e s m args below meth c Q A ls hx hb hml hown hts hP hK hD hS hA hl ret
  have f7 := hts (.fieldLink RX2 7 "RowSparseModel" "table" "[I") (by decide +kernel)
  have f13 := hts (.fieldLink RX2 13 "RowSparseModel" "other" "[I") (by decide +kernel)
  have f19 := hts (.fieldLink RX2 19 "RowSparseModel" "x" "[I") (by decide +kernel)
  have f22 := hts (.fieldLink RX2 22 "RowSparseModel" "y" "[I") (by decide +kernel)
  have f29 := hts (.fieldLink RX2 29 "RowSparseModel" "rows" "I") (by decide +kernel)
  have f33 := hts (.fieldLink RX2 33 "RowSparseModel" "cols" "I") (by decide +kernel)
  have f47 := hts (.fieldLink RX2 47 "RowSparseModel" "pending" "I") (by decide +kernel)
  have hin2 : ∀ w ∈ u_ws RX2 TX2 9, w ∈ wsX2_transpose := by decide +kernel
  have hl : lv_has ls 3 [(0, .ref o)] := hl
  have hP : va_P D vwCl [(o, .inr (2, [.int (nI K), .int (nI R), .int (nI C), .int (nI np), .ref ta, .ref ot, .ref mo, .ref xx, .ref yy])), (ta, .inl (cI, 3600, .inl T)), (ot, .inl (cI, 3600, .inl O)), (mo, .inl (cI, 3600, .inl E)), (xx, .inl (cI, 60, .inl xX)), (yy, .inl (cI, 60, .inl yY))] s.heap := hP
  have hD : va_D A [(o, .inr (2, [.int (nI K), .int (nI R), .int (nI C), .int (nI np), .ref ta, .ref ot, .ref mo, .ref xx, .ref yy])), (ta, .inl (cI, 3600, .inl T)), (ot, .inl (cI, 3600, .inl O)), (mo, .inl (cI, 3600, .inl E)), (xx, .inl (cI, 60, .inl xX)), (yy, .inl (cI, 60, .inl yY))] := hD
  refine lv_aload_n hx hb dX2_transpose_0 rfl (lv_at hl 0 rfl) ?_
  refine va_get (D := D) (ci := 2) (v := .int (nI np)) (C := RX2) (T := TX2) (N := 9) hx hb hts hin2 hown hK hP 0 rfl rfl 3 (by decide) f47 (fun _ h9 => h9) rfl dX2_transpose_1 ?_
  refine lv_if_le (tgt := 9) hx hb dX2_transpose_4 (by decide) (fun hp => ?_) (fun hp => ?_)
  · have h0 : np = 0 := by
      rw [← ms_nz, nI_leI (by omega) (by omega)] at hp
      omega
    refine lv_iconst (v := nI 0) hx hb dX2_transpose_9 (by decide +kernel) ?_
    refine lv_istore_n (lv' := [(1, .int (nI 0)), (0, .ref o)]) hx hb dX2_transpose_10 rfl hl (by decide) rfl (fun ls hl => ?_)
    have L11 : ∀ (k11 : Nat) (i : Nat) (O1 : Nat → Int32) (H : Heap) (locs : List Loc) (ls : Array Slot), i + k11 = R → (∀ a b, a < i → b < C → O1 (60 * b + a) = M0 a b) → va_P D vwCl [(o, .inr (2, [.int (nI K), .int (nI R), .int (nI C), .int (nI np), .ref ta, .ref ot, .ref mo, .ref xx, .ref yy])), (ta, .inl (cI, 3600, .inl T)), (ot, .inl (cI, 3600, .inl O1)), (mo, .inl (cI, 3600, .inl E)), (xx, .inl (cI, 60, .inl xX)), (yy, .inl (cI, 60, .inl yY))] H → va_D A [(o, .inr (2, [.int (nI K), .int (nI R), .int (nI C), .int (nI np), .ref ta, .ref ot, .ref mo, .ref xx, .ref yy])), (ta, .inl (cI, 3600, .inl T)), (ot, .inl (cI, 3600, .inl O1)), (mo, .inl (cI, 3600, .inl E)), (xx, .inl (cI, 60, .inl xX)), (yy, .inl (cI, 60, .inl yY))] → va_S A s.heap H locs → lv_has ls 3 [(1, .int (nI i)), (0, .ref o)] → W p l e rm_1 s m args below meth c H locs 0 0 Q (F0 m 11 ls []) := by
      intro k11
      induction k11 with
      | zero =>
        intro i O1 H locs ls hk11 hO hP hD hS hl
        have hO : ∀ a b, a < R → b < C → O1 (60 * b + a) = M0 a b := by rw [show i = R by omega] at hO; exact hO
        refine lv_iload_n hx hb dX2_transpose_11 rfl (lv_at hl 0 rfl) ?_
        refine lv_aload_n hx hb dX2_transpose_12 rfl (lv_at hl 1 rfl) ?_
        refine va_get (D := D) (ci := 2) (v := .int (nI R)) (C := RX2) (T := TX2) (N := 9) hx hb hts hin2 hown hK hP 0 rfl rfl 1 (by decide) f29 (fun _ h9 => h9) rfl dX2_transpose_13 ?_
        refine rv_ge_t (tgt := 63) hx hb dX2_transpose_16 (by decide) (by omega) (by omega) ?_
        refine lv_aload_n hx hb dX2_transpose_63 rfl (lv_at hl 1 rfl) ?_
        refine rs_cV (As := []) (rest := []) (WR := [(ta, .inl (cI, 3600, .inl T)), (ot, .inl (cI, 3600, .inl O1)), (mo, .inl (cI, 3600, .inl E)), (xx, .inl (cI, 60, .inl xX)), (yy, .inl (cI, 60, .inl yY))]) ⟨hx, hb, hml, hown, hts⟩ hl.1 (c_turns l D cI o K R C ta ot mo xx yy np) (cwV 0 hts gX2_transpose_X2_turns rfl rfl rfl (by decide +kernel) ⟨Nat.le_of_ble_eq_true rfl, Nat.le_of_ble_eq_true rfl⟩) hK hP hD hS hA [0] [1, 2, 3, 4, 5] rfl rfl (by decide) (by decide) (by decide) rfl rfl rfl rfl (Nat.le_of_ble_eq_true rfl) dX2_transpose_64 (Nat.le_of_ble_eq_true rfl) (Nat.le_of_ble_eq_true rfl) (fun u H locs hu hP hD hS => ?_)
        have hP : va_P D vwCl [(ta, .inl (cI, 3600, .inl T)), (ot, .inl (cI, 3600, .inl O1)), (mo, .inl (cI, 3600, .inl E)), (xx, .inl (cI, 60, .inl xX)), (yy, .inl (cI, 60, .inl yY)), (o, .inr (2, [.int (nI K), .int (nI R), .int (nI C), .int (nI np), .ref ot, .ref ta, .ref mo, .ref xx, .ref yy]))] H := hP
        have hD : va_D A [(ta, .inl (cI, 3600, .inl T)), (ot, .inl (cI, 3600, .inl O1)), (mo, .inl (cI, 3600, .inl E)), (xx, .inl (cI, 60, .inl xX)), (yy, .inl (cI, 60, .inl yY)), (o, .inr (2, [.int (nI K), .int (nI R), .int (nI C), .int (nI np), .ref ot, .ref ta, .ref mo, .ref xx, .ref yy]))] := hD
        refine lv_aload_n hx hb dX2_transpose_67 rfl (lv_at hl 1 rfl) ?_
        refine va_get (D := D) (ci := 2) (v := .int (nI R)) (C := RX2) (T := TX2) (N := 9) hx hb hts hin2 hown hK hP 5 rfl rfl 1 (by decide) f29 (fun _ h9 => h9) rfl dX2_transpose_68 ?_
        refine lv_istore_n (lv' := [(1, .int (nI R)), (0, .ref o)]) hx hb dX2_transpose_71 rfl hl (by decide) rfl (fun ls hl => ?_)
        refine lv_aload_n hx hb dX2_transpose_72 rfl (lv_at hl 1 rfl) ?_
        refine lv_aload_n hx hb dX2_transpose_73 rfl (lv_at hl 1 rfl) ?_
        refine va_get (D := D) (ci := 2) (v := .int (nI C)) (C := RX2) (T := TX2) (N := 9) hx hb hts hin2 hown hK hP 5 rfl rfl 2 (by decide) f33 (fun _ h9 => h9) rfl dX2_transpose_74 ?_
        refine va_put (D := D) (ci := 2) (v := .int (nI C)) (ty := .int) (C := RX2) (T := TX2) (N := 9) hx hb hts hin2 tyX2 tyX2_ok nmX2 hown hK hP hD hS 5 rfl rfl 1 (by decide) f29 (fun _ h9 => h9) rfl (by decide +kernel) rfl rfl (Nat.le_of_ble_eq_true rfl) dX2_transpose_77 (fun H locs hP hD hS => ?_)
        have hP : va_P D vwCl [(ta, .inl (cI, 3600, .inl T)), (ot, .inl (cI, 3600, .inl O1)), (mo, .inl (cI, 3600, .inl E)), (xx, .inl (cI, 60, .inl xX)), (yy, .inl (cI, 60, .inl yY)), (o, .inr (2, [.int (nI K), .int (nI C), .int (nI C), .int (nI np), .ref ot, .ref ta, .ref mo, .ref xx, .ref yy]))] H := hP
        have hD : va_D A [(ta, .inl (cI, 3600, .inl T)), (ot, .inl (cI, 3600, .inl O1)), (mo, .inl (cI, 3600, .inl E)), (xx, .inl (cI, 60, .inl xX)), (yy, .inl (cI, 60, .inl yY)), (o, .inr (2, [.int (nI K), .int (nI C), .int (nI C), .int (nI np), .ref ot, .ref ta, .ref mo, .ref xx, .ref yy]))] := hD
        refine lv_aload_n hx hb dX2_transpose_80 rfl (lv_at hl 1 rfl) ?_
        refine lv_iload_n hx hb dX2_transpose_81 rfl (lv_at hl 0 rfl) ?_
        refine va_put (D := D) (ci := 2) (v := .int (nI R)) (ty := .int) (C := RX2) (T := TX2) (N := 9) hx hb hts hin2 tyX2 tyX2_ok nmX2 hown hK hP hD hS 5 rfl rfl 2 (by decide) f33 (fun _ h9 => h9) rfl (by decide +kernel) rfl rfl (Nat.le_of_ble_eq_true rfl) dX2_transpose_82 (fun H locs hP hD hS => ?_)
        have hP : va_P D vwCl [(ta, .inl (cI, 3600, .inl T)), (ot, .inl (cI, 3600, .inl O1)), (mo, .inl (cI, 3600, .inl E)), (xx, .inl (cI, 60, .inl xX)), (yy, .inl (cI, 60, .inl yY)), (o, .inr (2, [.int (nI K), .int (nI C), .int (nI R), .int (nI np), .ref ot, .ref ta, .ref mo, .ref xx, .ref yy]))] H := hP
        have hD : va_D A [(ta, .inl (cI, 3600, .inl T)), (ot, .inl (cI, 3600, .inl O1)), (mo, .inl (cI, 3600, .inl E)), (xx, .inl (cI, 60, .inl xX)), (yy, .inl (cI, 60, .inl yY)), (o, .inr (2, [.int (nI K), .int (nI C), .int (nI R), .int (nI np), .ref ot, .ref ta, .ref mo, .ref xx, .ref yy]))] := hD
        refine lv_iconst (v := nI 0) hx hb dX2_transpose_85 (by decide +kernel) ?_
        refine lv_istore_n (lv' := [(2, .int (nI 0)), (1, .int (nI R)), (0, .ref o)]) hx hb dX2_transpose_86 rfl hl (by decide) rfl (fun ls hl => ?_)
        have L87 : ∀ (k87 : Nat) (k : Nat) (x1 : Nat → Int32) (y1 : Nat → Int32) (H : Heap) (locs : List Loc) (ls : Array Slot), k + k87 = 60 → (∀ t, t < k → x1 t = nI 0) → (∀ t, t < k → y1 t = nI 0) → va_P D vwCl [(o, .inr (2, [.int (nI K), .int (nI C), .int (nI R), .int (nI np), .ref ot, .ref ta, .ref mo, .ref xx, .ref yy])), (ot, .inl (cI, 3600, .inl O1)), (ta, .inl (cI, 3600, .inl T)), (mo, .inl (cI, 3600, .inl E)), (xx, .inl (cI, 60, .inl x1)), (yy, .inl (cI, 60, .inl y1))] H → va_D A [(o, .inr (2, [.int (nI K), .int (nI C), .int (nI R), .int (nI np), .ref ot, .ref ta, .ref mo, .ref xx, .ref yy])), (ot, .inl (cI, 3600, .inl O1)), (ta, .inl (cI, 3600, .inl T)), (mo, .inl (cI, 3600, .inl E)), (xx, .inl (cI, 60, .inl x1)), (yy, .inl (cI, 60, .inl y1))] → va_S A s.heap H locs → lv_has ls 3 [(2, .int (nI k)), (0, .ref o)] → W p l e rm_1 s m args below meth c H locs 0 0 Q (F0 m 87 ls []) := by
          intro k87
          induction k87 with
          | zero =>
            intro k x1 y1 H locs ls hk87 hx1 hy1 hP hD hS hl
            refine lv_iload_n hx hb dX2_transpose_87 rfl (lv_at hl 0 rfl) ?_
            refine lv_bipush (v := nI 60) hx hb dX2_transpose_88 (by decide +kernel) ?_
            refine rv_ge_t (tgt := 113) hx hb dX2_transpose_90 (by decide) (by omega) (by omega) ?_
            refine lv_iconst (v := nI 1) hx hb dX2_transpose_113 (by decide +kernel) ?_
            exact ret _ _ _ _ _ (((K, C, R, S, np), (fun i j => M0 j i), P, (fun _ => 0), fun _ => 0), ((ot, ta), O1, T, (E, x1, y1))) dX2_transpose_114 (rfl) (⟨(an_turn_t h0).1, (an_turn_t h0).2.symm, by subst h0; exact st_mturn hr hO (fun t ht => hx1 t (by omega)) (fun t ht => hy1 t (by omega))⟩) (hP.sub [0, 1, 2, 3, 4, 5] rfl) (hD.sub [0, 1, 2, 3, 4, 5] (by decide) rfl) hS
          | succ k87 ih87 =>
            intro k x1 y1 H locs ls hk87 hx1 hy1 hP hD hS hl
            refine lv_iload_n hx hb dX2_transpose_87 rfl (lv_at hl 0 rfl) ?_
            refine lv_bipush (v := nI 60) hx hb dX2_transpose_88 (by decide +kernel) ?_
            refine rv_ge_f (tgt := 113) hx hb dX2_transpose_90 (by decide) (by omega) (by omega) ?_
            refine lv_aload_n hx hb dX2_transpose_93 rfl (lv_at hl 1 rfl) ?_
            refine va_get (D := D) (ci := 2) (v := .ref xx) (C := RX2) (T := TX2) (N := 9) hx hb hts hin2 hown hK hP 0 rfl rfl 7 (by decide) f19 (fun _ h9 => h9) rfl dX2_transpose_94 ?_
            refine lv_iload_n hx hb dX2_transpose_97 rfl (lv_at hl 0 rfl) ?_
            refine lv_iconst (v := nI 0) hx hb dX2_transpose_98 (by decide +kernel) ?_
            refine rv_iast hx hb hK hP hD hS 4 rfl rfl (by omega) (by omega) dX2_transpose_99 (fun H locs hP hD hS => ?_)
            have hP : va_P D vwCl [(o, .inr (2, [.int (nI K), .int (nI C), .int (nI R), .int (nI np), .ref ot, .ref ta, .ref mo, .ref xx, .ref yy])), (ot, .inl (cI, 3600, .inl O1)), (ta, .inl (cI, 3600, .inl T)), (mo, .inl (cI, 3600, .inl E)), (xx, .inl (cI, 60, .inl (upd x1 k (nI 0)))), (yy, .inl (cI, 60, .inl y1))] H := hP
            have hD : va_D A [(o, .inr (2, [.int (nI K), .int (nI C), .int (nI R), .int (nI np), .ref ot, .ref ta, .ref mo, .ref xx, .ref yy])), (ot, .inl (cI, 3600, .inl O1)), (ta, .inl (cI, 3600, .inl T)), (mo, .inl (cI, 3600, .inl E)), (xx, .inl (cI, 60, .inl (upd x1 k (nI 0)))), (yy, .inl (cI, 60, .inl y1))] := hD
            refine lv_aload_n hx hb dX2_transpose_100 rfl (lv_at hl 1 rfl) ?_
            refine va_get (D := D) (ci := 2) (v := .ref yy) (C := RX2) (T := TX2) (N := 9) hx hb hts hin2 hown hK hP 0 rfl rfl 8 (by decide) f22 (fun _ h9 => h9) rfl dX2_transpose_101 ?_
            refine lv_iload_n hx hb dX2_transpose_104 rfl (lv_at hl 0 rfl) ?_
            refine lv_iconst (v := nI 0) hx hb dX2_transpose_105 (by decide +kernel) ?_
            refine rv_iast hx hb hK hP hD hS 5 rfl rfl (by omega) (by omega) dX2_transpose_106 (fun H locs hP hD hS => ?_)
            have hP : va_P D vwCl [(o, .inr (2, [.int (nI K), .int (nI C), .int (nI R), .int (nI np), .ref ot, .ref ta, .ref mo, .ref xx, .ref yy])), (ot, .inl (cI, 3600, .inl O1)), (ta, .inl (cI, 3600, .inl T)), (mo, .inl (cI, 3600, .inl E)), (xx, .inl (cI, 60, .inl (upd x1 k (nI 0)))), (yy, .inl (cI, 60, .inl (upd y1 k (nI 0))))] H := hP
            have hD : va_D A [(o, .inr (2, [.int (nI K), .int (nI C), .int (nI R), .int (nI np), .ref ot, .ref ta, .ref mo, .ref xx, .ref yy])), (ot, .inl (cI, 3600, .inl O1)), (ta, .inl (cI, 3600, .inl T)), (mo, .inl (cI, 3600, .inl E)), (xx, .inl (cI, 60, .inl (upd x1 k (nI 0)))), (yy, .inl (cI, 60, .inl (upd y1 k (nI 0))))] := hD
            refine lv_iinc (v := nI (k + 1)) (lv' := [(2, .int (nI (k + 1))), (0, .ref o)]) hx hb dX2_transpose_107 hl (k := 0) rfl (rv_inc _) (by decide) rfl (fun ls hl => ?_)
            refine lv_goto (tgt := 87) hx hb dX2_transpose_110 (by decide) ?_
            exact ih87 (k + 1) (upd x1 k (nI 0)) (upd y1 k (nI 0)) _ _ _ (by omega) (ms_fillstep hx1) (ms_fillstep hy1) (hP.sub [0, 1, 2, 3, 4, 5] rfl) (hD.sub [0, 1, 2, 3, 4, 5] (by decide) rfl) hS (lv_sub hl [0, 1] rfl)
        exact L87 _ 0 xX yY _ _ _ (Nat.zero_add _) (fun t ht => absurd ht (Nat.not_lt_zero t)) (fun t ht => absurd ht (Nat.not_lt_zero t)) (hP.sub [5, 1, 0, 2, 3, 4] rfl) (hD.sub [5, 1, 0, 2, 3, 4] (by decide) rfl) hS (lv_sub hl [0, 2] rfl)
      | succ k11 ih11 =>
        intro i O1 H locs ls hk11 hO hP hD hS hl
        refine lv_iload_n hx hb dX2_transpose_11 rfl (lv_at hl 0 rfl) ?_
        refine lv_aload_n hx hb dX2_transpose_12 rfl (lv_at hl 1 rfl) ?_
        refine va_get (D := D) (ci := 2) (v := .int (nI R)) (C := RX2) (T := TX2) (N := 9) hx hb hts hin2 hown hK hP 0 rfl rfl 1 (by decide) f29 (fun _ h9 => h9) rfl dX2_transpose_13 ?_
        refine rv_ge_f (tgt := 63) hx hb dX2_transpose_16 (by decide) (by omega) (by omega) ?_
        refine lv_iconst (v := nI 0) hx hb dX2_transpose_19 (by decide +kernel) ?_
        refine lv_istore_n (lv' := [(2, .int (nI 0)), (1, .int (nI i)), (0, .ref o)]) hx hb dX2_transpose_20 rfl hl (by decide) rfl (fun ls hl => ?_)
        have L21 : ∀ (k21 : Nat) (j : Nat) (O2 : Nat → Int32) (H : Heap) (locs : List Loc) (ls : Array Slot), j + k21 = C → (∀ a b, a < i → b < C → O2 (60 * b + a) = M0 a b) → (∀ b, b < j → O2 (60 * b + i) = M0 i b) → va_P D vwCl [(o, .inr (2, [.int (nI K), .int (nI R), .int (nI C), .int (nI np), .ref ta, .ref ot, .ref mo, .ref xx, .ref yy])), (ta, .inl (cI, 3600, .inl T)), (ot, .inl (cI, 3600, .inl O2)), (mo, .inl (cI, 3600, .inl E)), (xx, .inl (cI, 60, .inl xX)), (yy, .inl (cI, 60, .inl yY))] H → va_D A [(o, .inr (2, [.int (nI K), .int (nI R), .int (nI C), .int (nI np), .ref ta, .ref ot, .ref mo, .ref xx, .ref yy])), (ta, .inl (cI, 3600, .inl T)), (ot, .inl (cI, 3600, .inl O2)), (mo, .inl (cI, 3600, .inl E)), (xx, .inl (cI, 60, .inl xX)), (yy, .inl (cI, 60, .inl yY))] → va_S A s.heap H locs → lv_has ls 3 [(2, .int (nI j)), (1, .int (nI i)), (0, .ref o)] → W p l e rm_1 s m args below meth c H locs 0 0 Q (F0 m 21 ls []) := by
          intro k21
          induction k21 with
          | zero =>
            intro j O2 H locs ls hk21 h1 h2 hP hD hS hl
            refine lv_iload_n hx hb dX2_transpose_21 rfl (lv_at hl 0 rfl) ?_
            refine lv_aload_n hx hb dX2_transpose_22 rfl (lv_at hl 2 rfl) ?_
            refine va_get (D := D) (ci := 2) (v := .int (nI C)) (C := RX2) (T := TX2) (N := 9) hx hb hts hin2 hown hK hP 0 rfl rfl 2 (by decide) f33 (fun _ h9 => h9) rfl dX2_transpose_23 ?_
            refine rv_ge_t (tgt := 57) hx hb dX2_transpose_26 (by decide) (by omega) (by omega) ?_
            refine lv_iinc (v := nI (i + 1)) (lv' := [(1, .int (nI (i + 1))), (2, .int (nI j)), (0, .ref o)]) hx hb dX2_transpose_57 hl (k := 1) rfl (rv_inc _) (by decide) rfl (fun ls hl => ?_)
            refine lv_goto (tgt := 11) hx hb dX2_transpose_60 (by decide) ?_
            exact ih11 (i + 1) O2 _ _ _ (by omega) (ms_gridTrow (show j = C by omega) h1 h2) (hP.sub [0, 1, 2, 3, 4, 5] rfl) (hD.sub [0, 1, 2, 3, 4, 5] (by decide) rfl) hS (lv_sub hl [0, 2] rfl)
          | succ k21 ih21 =>
            intro j O2 H locs ls hk21 h1 h2 hP hD hS hl
            refine lv_iload_n hx hb dX2_transpose_21 rfl (lv_at hl 0 rfl) ?_
            refine lv_aload_n hx hb dX2_transpose_22 rfl (lv_at hl 2 rfl) ?_
            refine va_get (D := D) (ci := 2) (v := .int (nI C)) (C := RX2) (T := TX2) (N := 9) hx hb hts hin2 hown hK hP 0 rfl rfl 2 (by decide) f33 (fun _ h9 => h9) rfl dX2_transpose_23 ?_
            refine rv_ge_f (tgt := 57) hx hb dX2_transpose_26 (by decide) (by omega) (by omega) ?_
            refine lv_aload_n hx hb dX2_transpose_29 rfl (lv_at hl 2 rfl) ?_
            refine va_get (D := D) (ci := 2) (v := .ref ot) (C := RX2) (T := TX2) (N := 9) hx hb hts hin2 hown hK hP 0 rfl rfl 5 (by decide) f13 (fun _ h9 => h9) rfl dX2_transpose_30 ?_
            refine lv_bipush (v := nI 60) hx hb dX2_transpose_33 (by decide +kernel) ?_
            refine lv_iload_n hx hb dX2_transpose_35 rfl (lv_at hl 0 rfl) ?_
            refine rv_imul hx hb dX2_transpose_36 ?_
            refine lv_iload_n hx hb dX2_transpose_37 rfl (lv_at hl 1 rfl) ?_
            refine rv_iadd hx hb dX2_transpose_38 ?_
            refine lv_aload_n hx hb dX2_transpose_39 rfl (lv_at hl 2 rfl) ?_
            refine va_get (D := D) (ci := 2) (v := .ref ta) (C := RX2) (T := TX2) (N := 9) hx hb hts hin2 hown hK hP 0 rfl rfl 4 (by decide) f7 (fun _ h9 => h9) rfl dX2_transpose_40 ?_
            refine lv_bipush (v := nI 60) hx hb dX2_transpose_43 (by decide +kernel) ?_
            refine lv_iload_n hx hb dX2_transpose_45 rfl (lv_at hl 1 rfl) ?_
            refine rv_imul hx hb dX2_transpose_46 ?_
            refine lv_iload_n hx hb dX2_transpose_47 rfl (lv_at hl 0 rfl) ?_
            refine rv_iadd hx hb dX2_transpose_48 ?_
            refine rv_iald hx hb hK hP 1 rfl rfl (by omega) (by omega) dX2_transpose_49 ?_
            refine rv_top (hT i j (by omega) (by omega)) ?_
            refine rv_iast hx hb hK hP hD hS 2 rfl rfl (by omega) (by omega) dX2_transpose_50 (fun H locs hP hD hS => ?_)
            have hP : va_P D vwCl [(o, .inr (2, [.int (nI K), .int (nI R), .int (nI C), .int (nI np), .ref ta, .ref ot, .ref mo, .ref xx, .ref yy])), (ta, .inl (cI, 3600, .inl T)), (ot, .inl (cI, 3600, .inl (upd O2 (60 * j + i) (M0 i j)))), (mo, .inl (cI, 3600, .inl E)), (xx, .inl (cI, 60, .inl xX)), (yy, .inl (cI, 60, .inl yY))] H := hP
            have hD : va_D A [(o, .inr (2, [.int (nI K), .int (nI R), .int (nI C), .int (nI np), .ref ta, .ref ot, .ref mo, .ref xx, .ref yy])), (ta, .inl (cI, 3600, .inl T)), (ot, .inl (cI, 3600, .inl (upd O2 (60 * j + i) (M0 i j)))), (mo, .inl (cI, 3600, .inl E)), (xx, .inl (cI, 60, .inl xX)), (yy, .inl (cI, 60, .inl yY))] := hD
            refine lv_iinc (v := nI (j + 1)) (lv' := [(2, .int (nI (j + 1))), (1, .int (nI i)), (0, .ref o)]) hx hb dX2_transpose_51 hl (k := 0) rfl (rv_inc _) (by decide) rfl (fun ls hl => ?_)
            refine lv_goto (tgt := 21) hx hb dX2_transpose_54 (by decide) ?_
            exact ih21 (j + 1) (upd O2 (60 * j + i) (M0 i j)) _ _ _ (by omega) ((ms_gridT (by omega) (show j < C by omega) h1 h2 rfl).1) ((ms_gridT (by omega) (show j < C by omega) h1 h2 rfl).2) (hP.sub [0, 1, 2, 3, 4, 5] rfl) (hD.sub [0, 1, 2, 3, 4, 5] (by decide) rfl) hS (lv_sub hl [0, 1, 2] rfl)
        exact L21 _ 0 O1 _ _ _ (Nat.zero_add _) (hO) (fun b hb => absurd hb (Nat.not_lt_zero b)) (hP.sub [0, 1, 2, 3, 4, 5] rfl) (hD.sub [0, 1, 2, 3, 4, 5] (by decide) rfl) hS (lv_sub hl [0, 1, 2] rfl)
    exact L11 _ 0 O _ _ _ (Nat.zero_add _) (fun a b ha => absurd ha (Nat.not_lt_zero a)) (hP.sub [0, 1, 2, 3, 4, 5] rfl) (hD.sub [0, 1, 2, 3, 4, 5] (by decide) rfl) hS (lv_sub hl [0, 1] rfl)
  · have h0 : ¬ np = 0 := fun q => hp (by rw [q]; decide)
    refine lv_iconst (v := nI 0) hx hb dX2_transpose_7 (by decide +kernel) ?_
    exact ret _ _ _ _ _ (((K, R, C, S, np), M0, P, X, Y), ((ta, ot), T, O, (E, xX, yY))) dX2_transpose_8 (rfl) (⟨(an_turn_f h0).1, (an_turn_f h0).2.symm, hr⟩) (hP.sub [0, 1, 2, 3, 4, 5] rfl) (hD.sub [0, 1, 2, 3, 4, 5] (by decide) rfl) hS
end
section
abbrev rm_S : Room := { frames := 1, cells := 3, slots := 2100, locals := 40 }
abbrev rm_C : Room := { frames := 2, cells := 14, slots := 8000, locals := 80 }
abbrev rm_M : Room := { frames := 1, cells := 5, slots := 11000, locals := 40 }
section RSE
variable {p : Program} {l : Launch} {e : Env} {R : Room} {s : State} {m : MethodId} {args : Array Value} {below : List Frame} {meth : Method} {c : Code} {H : Heap} {locs : List Loc} {cells slots : Nat} {Q : State → Prop}
variable {cc : ByteArray} {pc : Nat} {ls : Array Slot} {rest : List Value} {D : va_G} {ws : va_W} {A : Nat → Prop} {H0 : Heap} {cI : ClassId}
theorem rs_newa {N : Nat} (hx : p.tables.exec = Jvm.exec) (hb : c.code = cc) (harr : (Cond.arrayClass .int).before args s = true) (hK : va_K D vwCl [(cI, .int)] s) (hP : va_P D vwCl ws H) (hD : va_D A ws) (hS : va_S A H0 H locs) (hA : ∀ q, H0.size ≤ q → A q) (hN : N ≤ 4000) (hcells : cells + 1 ≤ R.cells) (hslots : slots + N ≤ R.slots) (hdg : decode cc pc = .ok (.newarray .int, 2))
    (kk : ∀ (q : Nat) (H1 : Heap), va_P D vwCl (ws ++ [(q, .inl (cI, N, .inl (fun _ => 0)))]) H1 → va_D A (ws ++ [(q, .inl (cI, N, .inl (fun _ => 0)))]) → va_S A H0 H1 locs → W p l e R s m args below meth c H1 locs (cells + 1) (slots + N) Q (F0 m (pc + 2) ls (.ref q :: rest))) : W p l e R s m args below meth c H locs cells slots Q (F0 m pc ls (.int (nI N) :: rest)) := by
  refine va_newa (atype := .int) (ty := .int) (N' := N) (a0 := (N, .inl (fun _ => 0))) hx hb harr rfl hK hP hD hS hA (fun cA => rfl) (nI_pos (by omega)) (nI_clamp (by omega)) (show N * 4 ≤ 536870912 by omega) hcells hslots hdg (fun q cA H1 hK1 hP1 hD1 hS1 => ?_)
  have h1 : s.vm.findClass ("[" ++ FieldType.int.toString) = some cI := (hK1.2 0 (cI, .int) rfl).2
  have h2 : s.vm.findClass ("[" ++ FieldType.int.toString) = some cA := (hK1.2 1 (cA, .int) rfl).2
  have e : cI = cA := Option.some.inj (h1.symm.trans h2)
  subst e
  exact kk q H1 hP1 hD1 hS1
end RSE
def st_0 (r c k : Int32) : st_A := ((ms_cl k 1000, ms_cl r 60, ms_cl c 60, max (ms_cl r 60) (ms_cl c 60), 0), (fun _ _ => 0), (fun _ _ => 0), (fun _ => 0), fun _ => 0)
theorem ms_rc_0 : ∀ n, ms_rc (fun _ => 0) n = 0
  | 0 => rfl
  | n + 1 => by rw [ms_rc, ms_rc_0 n, if_pos rfl]
theorem ms_sc_0 (S : Nat) : ∀ n, ms_sc (fun _ _ => 0) S n = 0
  | 0 => rfl
  | n + 1 => by rw [ms_sc, ms_sc_0 S n, ms_rc_0]
theorem st_wf0 (r c k : Int32) : st_WF (ms_cl k 1000) (ms_cl r 60) (ms_cl c 60) (max (ms_cl r 60) (ms_cl c 60)) 0 (fun _ _ => 0) := by
  have h1 := ms_cl_b (x := r) (N := 60) (by omega)
  have h2 := ms_cl_b (x := c) (N := 60) (by omega)
  have h3 := ms_cl_b (x := k) (N := 1000) (by omega)
  exact ⟨⟨by omega, by omega, by omega, by omega, by omega, by omega, by omega, by omega⟩, fun _ _ _ => rfl⟩
theorem st_rc0 (r c k : Int32) : st_RC (ms_cl k 1000) (ms_cl r 60) (ms_cl c 60) (max (ms_cl r 60) (ms_cl c 60)) 0 (fun _ _ => 0) (fun _ _ => 0) (fun _ => 0) (fun _ => 0) (fun _ => 0) (fun _ => 0) (fun _ => 0) (fun _ => 0) (fun _ => 0) (fun _ => 0) (fun _ => 0) (fun _ => 0) (fun _ => 0) :=
  ⟨st_wf0 r c k, ⟨fun i _ => by rw [ms_sc_0]; rfl, by rw [ms_sc_0]; exact Nat.zero_le _, fun i j _ _ h => absurd rfl h⟩, rfl, fun p hp => absurd hp (Nat.not_lt_zero p), fun _ _ _ _ => rfl, fun _ _ => rfl, fun _ _ => rfl⟩
theorem st_rm0 (r c k : Int32) : st_RM (ms_cl k 1000) (ms_cl r 60) (ms_cl c 60) (max (ms_cl r 60) (ms_cl c 60)) 0 (fun _ _ => 0) (fun _ _ => 0) (fun _ => 0) (fun _ => 0) (fun _ => 0) (fun _ => 0) (fun _ => 0) (fun _ => 0) :=
  ⟨st_wf0 r c k, fun _ _ _ _ => rfl, fun _ _ _ _ => rfl, fun _ _ _ _ _ => rfl, fun _ _ => rfl, fun _ _ => rfl⟩
end
section
set_option maxHeartbeats 4000000 in
set_option maxRecDepth 100000 in
theorem c_Sinit (l : Launch) (D : va_G) (cI : ClassId) (h S K : Nat) (b1 : S ≤ 60) (b2 : K ≤ 1000) : MetV l yX0_init wsX0_init rm_S D [(cI, .int)] [.ref h, .int (nI S), .int (nI K)] [(h, .inr (0, [.null, .null, .null]))] (fun _ : Nat × Nat × Nat => True) (fun u => [(h, .inr (0, [.ref u.1, .ref u.2.1, .ref u.2.2])), (u.1, .inl (cI, S + 1, .inl (fun _ => 0))), (u.2.1, .inl (cI, K, .inl (fun _ => 0))), (u.2.2, .inl (cI, K, .inl (fun _ => 0)))]) 3 2100 := by
  refine rs_V (cc := cX0_init) (maxL := 3) (by decide) rfl (Nat.le_of_ble_eq_true rfl) ?_
  intro p e s m args below meth c Q A ls hx hb hml hown hts hin hP hK hD hS hA hl ret
  have f7 := hts (.fieldLink RX0 7 "RowSparse$Support" "starts" "[I") (by decide +kernel)
  have f13 := hts (.fieldLink RX0 13 "RowSparse$Support" "columns" "[I") (by decide +kernel)
  have f16 := hts (.fieldLink RX0 16 "RowSparse$Support" "values" "[I") (by decide +kernel)
  have hin0 : ∀ w ∈ u_ws RX0 TX0 3, w ∈ wsX0_init := by decide +kernel
  have hl : lv_has ls 3 [(0, .ref h), (1, .int (nI S)), (2, .int (nI K))] := hl
  have hP : va_P D vwCl [(h, .inr (0, [.null, .null, .null]))] s.heap := hP
  have hD : va_D A [(h, .inr (0, [.null, .null, .null]))] := hD
  have harr := hts (.arrayClass .int) (by decide +kernel)
  refine lv_aload_n hx hb dX0_init_0 rfl (lv_at hl 0 rfl) ?_
  refine W.objInit hx hb hown (hts (.methodLink RX0 1 objectInit) (by decide +kernel)) (hts (.instanceMethod objectInit) (by decide +kernel)) (hts (.code objectInit ⟨#[0xb1]⟩ 1 none) (by decide +kernel)) rfl (by rw [hml]; exact hl.1) rfl dX0_init_1 (Nat.le_of_ble_eq_true rfl) (Nat.le_of_ble_eq_true rfl) ?_
  refine W.eq (g2 := F0 m 4 ls []) rfl ?_
  refine lv_aload_n hx hb dX0_init_4 rfl (lv_at hl 0 rfl) ?_
  refine lv_iload_n hx hb dX0_init_5 rfl (lv_at hl 1 rfl) ?_
  refine lv_iconst (v := nI 1) hx hb dX0_init_6 (by decide +kernel) ?_
  refine rv_iadd hx hb dX0_init_7 ?_
  refine rs_newa (N := (S + 1)) hx hb harr hK hP hD hS hA (by omega) (show 0 + 1 ≤ 3 by omega) (show 0 + (S + 1) ≤ 2100 by omega) dX0_init_8 (fun sa H hP hD hS => ?_)
  have hP : va_P D vwCl [(h, .inr (0, [.null, .null, .null])), (sa, .inl (cI, S + 1, .inl (fun _ => 0)))] H := hP
  have hD : va_D A [(h, .inr (0, [.null, .null, .null])), (sa, .inl (cI, S + 1, .inl (fun _ => 0)))] := hD
  refine W.widen (k := 1) (n := 61) (by omega) (by omega) ?_
  refine va_putF (D := D) (ci := 0) (v := .ref sa) (ty := .array .int) (C := RX0) (T := TX0) (N := 3) hx hb hts hin0 tyX0 tyX0_ok nmX0 hown hK hP hD hS 0 rfl rfl 0 (by decide) f7 (fun _ h9 => h9) rfl hin rfl (by decide +kernel) rfl rfl (Nat.le_of_ble_eq_true rfl) dX0_init_10 (fun H locs hP hD hS => ?_)
  have hP : va_P D vwCl [(h, .inr (0, [.ref sa, .null, .null])), (sa, .inl (cI, S + 1, .inl (fun _ => 0)))] H := hP
  have hD : va_D A [(h, .inr (0, [.ref sa, .null, .null])), (sa, .inl (cI, S + 1, .inl (fun _ => 0)))] := hD
  refine lv_aload_n hx hb dX0_init_13 rfl (lv_at hl 0 rfl) ?_
  refine lv_iload_n hx hb dX0_init_14 rfl (lv_at hl 2 rfl) ?_
  refine rs_newa (N := K) hx hb harr hK hP hD hS hA (by omega) (show 1 + 1 ≤ 3 by omega) (show 61 + K ≤ 2100 by omega) dX0_init_15 (fun sb H hP hD hS => ?_)
  have hP : va_P D vwCl [(h, .inr (0, [.ref sa, .null, .null])), (sa, .inl (cI, S + 1, .inl (fun _ => 0))), (sb, .inl (cI, K, .inl (fun _ => 0)))] H := hP
  have hD : va_D A [(h, .inr (0, [.ref sa, .null, .null])), (sa, .inl (cI, S + 1, .inl (fun _ => 0))), (sb, .inl (cI, K, .inl (fun _ => 0)))] := hD
  refine W.widen (k := 2) (n := 1061) (by omega) (by omega) ?_
  refine va_putF (D := D) (ci := 0) (v := .ref sb) (ty := .array .int) (C := RX0) (T := TX0) (N := 3) hx hb hts hin0 tyX0 tyX0_ok nmX0 hown hK hP hD hS 0 rfl rfl 1 (by decide) f13 (fun _ h9 => h9) rfl hin rfl (by decide +kernel) rfl rfl (Nat.le_of_ble_eq_true rfl) dX0_init_17 (fun H locs hP hD hS => ?_)
  have hP : va_P D vwCl [(h, .inr (0, [.ref sa, .ref sb, .null])), (sa, .inl (cI, S + 1, .inl (fun _ => 0))), (sb, .inl (cI, K, .inl (fun _ => 0)))] H := hP
  have hD : va_D A [(h, .inr (0, [.ref sa, .ref sb, .null])), (sa, .inl (cI, S + 1, .inl (fun _ => 0))), (sb, .inl (cI, K, .inl (fun _ => 0)))] := hD
  refine lv_aload_n hx hb dX0_init_20 rfl (lv_at hl 0 rfl) ?_
  refine lv_iload_n hx hb dX0_init_21 rfl (lv_at hl 2 rfl) ?_
  refine rs_newa (N := K) hx hb harr hK hP hD hS hA (by omega) (show 2 + 1 ≤ 3 by omega) (show 1061 + K ≤ 2100 by omega) dX0_init_22 (fun sc H hP hD hS => ?_)
  have hP : va_P D vwCl [(h, .inr (0, [.ref sa, .ref sb, .null])), (sa, .inl (cI, S + 1, .inl (fun _ => 0))), (sb, .inl (cI, K, .inl (fun _ => 0))), (sc, .inl (cI, K, .inl (fun _ => 0)))] H := hP
  have hD : va_D A [(h, .inr (0, [.ref sa, .ref sb, .null])), (sa, .inl (cI, S + 1, .inl (fun _ => 0))), (sb, .inl (cI, K, .inl (fun _ => 0))), (sc, .inl (cI, K, .inl (fun _ => 0)))] := hD
  refine W.widen (k := 3) (n := 2061) (by omega) (by omega) ?_
  refine va_putF (D := D) (ci := 0) (v := .ref sc) (ty := .array .int) (C := RX0) (T := TX0) (N := 3) hx hb hts hin0 tyX0 tyX0_ok nmX0 hown hK hP hD hS 0 rfl rfl 2 (by decide) f16 (fun _ h9 => h9) rfl hin rfl (by decide +kernel) rfl rfl (Nat.le_of_ble_eq_true rfl) dX0_init_24 (fun H locs hP hD hS => ?_)
  have hP : va_P D vwCl [(h, .inr (0, [.ref sa, .ref sb, .ref sc])), (sa, .inl (cI, S + 1, .inl (fun _ => 0))), (sb, .inl (cI, K, .inl (fun _ => 0))), (sc, .inl (cI, K, .inl (fun _ => 0)))] H := hP
  have hD : va_D A [(h, .inr (0, [.ref sa, .ref sb, .ref sc])), (sa, .inl (cI, S + 1, .inl (fun _ => 0))), (sb, .inl (cI, K, .inl (fun _ => 0))), (sc, .inl (cI, K, .inl (fun _ => 0)))] := hD
  refine W.widen (k := 3) (n := 2100) (by omega) (by omega) ?_
  exact ret _ _ _ _ (sa, sb, sc) dX0_init_27 (trivial) (hP.sub [0, 1, 2, 3] rfl) (hD.sub [0, 1, 2, 3] (by decide) rfl) hS

set_option maxHeartbeats 4000000 in
set_option maxRecDepth 100000 in
theorem c_init (l : Launch) (D : va_G) (cI : ClassId) (o : Nat) (rows cols cap : Int32) : MetV l yX1_init wsX1_init rm_C D [(cI, .int)] [.ref o, .int rows, .int cols, .int cap] [(o, .inr (1, [.int 0, .int 0, .int 0, .null, .null, .null, .null, .null, .int 0, .null, .null, .null]))] (fun x : (Nat × Nat × Nat × Nat × Nat × Nat) × st_C => st_rc (st_0 rows cols cap) x.2) (fun x : (Nat × Nat × Nat × Nat × Nat × Nat) × st_C => st_wC cI o x.1.1 x.1.2.1 x.1.2.2.1 x.1.2.2.2.1 x.1.2.2.2.2.1 x.1.2.2.2.2.2 (st_0 rows cols cap) x.2) 14 8000 := by
  refine rs_V (cc := cX1_init) (maxL := 5) (by decide) rfl (Nat.le_of_ble_eq_true rfl) ?_
  intro p e s m args below meth c Q A ls hx hb hml hown hts hin hP hK hD hS hA hl ret
  have f13 := hts (.fieldLink RX1 13 "RowSparse" "rows" "I") (by decide +kernel)
  have f17 := hts (.fieldLink RX1 17 "RowSparse" "cols" "I") (by decide +kernel)
  have f20 := hts (.fieldLink RX1 20 "RowSparse" "cap" "I") (by decide +kernel)
  have f33 := hts (.fieldLink RX1 33 "RowSparse" "support" "LRowSparse$Support;") (by decide +kernel)
  have f37 := hts (.fieldLink RX1 37 "RowSparse" "spare" "LRowSparse$Support;") (by decide +kernel)
  have f40 := hts (.fieldLink RX1 40 "RowSparse" "pendingRows" "[I") (by decide +kernel)
  have f44 := hts (.fieldLink RX1 44 "RowSparse" "pendingCols" "[I") (by decide +kernel)
  have f47 := hts (.fieldLink RX1 47 "RowSparse" "pendingValues" "[I") (by decide +kernel)
  have f50 := hts (.fieldLink RX1 50 "RowSparse" "pending" "I") (by decide +kernel)
  have f53 := hts (.fieldLink RX1 53 "RowSparse" "vector" "[I") (by decide +kernel)
  have f56 := hts (.fieldLink RX1 56 "RowSparse" "product" "[I") (by decide +kernel)
  have f59 := hts (.fieldLink RX1 59 "RowSparse" "line" "[I") (by decide +kernel)
  have hin0 : ∀ w ∈ u_ws RX0 TX0 3, w ∈ wsX1_init := by decide +kernel
  have hin1 : ∀ w ∈ u_ws RX1 TX1 12, w ∈ wsX1_init := by decide +kernel
  have hl : lv_has ls 5 [(0, .ref o), (1, .int rows), (2, .int cols), (3, .int cap)] := hl
  have hP : va_P D vwCl [(o, .inr (1, [.int 0, .int 0, .int 0, .null, .null, .null, .null, .null, .int 0, .null, .null, .null]))] s.heap := hP
  have hD : va_D A [(o, .inr (1, [.int 0, .int 0, .int 0, .null, .null, .null, .null, .null, .int 0, .null, .null, .null]))] := hD
  have harr := hts (.arrayClass .int) (by decide +kernel)
  have hr0 := st_rc0 rows cols cap
  obtain ⟨R, eR⟩ : ∃ z, z = ms_cl rows 60 := ⟨_, rfl⟩
  obtain ⟨C, eC⟩ : ∃ z, z = ms_cl cols 60 := ⟨_, rfl⟩
  obtain ⟨K, eK⟩ : ∃ z, z = ms_cl cap 1000 := ⟨_, rfl⟩
  obtain ⟨S, eS⟩ : ∃ z, z = max R C := ⟨_, rfl⟩
  have e0 : st_0 rows cols cap = ((K, R, C, S, 0), (fun _ _ => 0), (fun _ _ => 0), (fun _ => 0), fun _ => 0) := by rw [eS, eK, eC, eR]; rfl
  rw [e0] at ret
  rw [← eR, ← eC, ← eK, ← eS] at hr0
  obtain ⟨⟨b1, b2, b3, b4, b5, b6, b7, b8⟩, -⟩ := id hr0.1
  refine lv_aload_n hx hb dX1_init_0 rfl (lv_at hl 0 rfl) ?_
  refine W.objInit hx hb hown (hts (.methodLink RX1 1 objectInit) (by decide +kernel)) (hts (.instanceMethod objectInit) (by decide +kernel)) (hts (.code objectInit ⟨#[0xb1]⟩ 1 none) (by decide +kernel)) rfl (by rw [hml]; exact hl.1) rfl dX1_init_1 (Nat.le_of_ble_eq_true rfl) (Nat.le_of_ble_eq_true rfl) ?_
  refine W.eq (g2 := F0 m 4 ls []) rfl ?_
  refine lv_aload_n hx hb dX1_init_4 rfl (lv_at hl 0 rfl) ?_
  refine lv_iload_n hx hb dX1_init_5 rfl (lv_at hl 1 rfl) ?_
  refine lv_bipush (v := nI 60) hx hb dX1_init_6 (by decide +kernel) ?_
  refine rs_cRS (As := [.int rows, .int (nI 60)]) (rest := [.ref o]) ⟨hx, hb, hml, hown, hts⟩ hl.1 (c_nearest l D cI rows 60 (by omega) (by omega)) (va_cwS 2 hts gX1_init_X1_nearest rfl rfl rfl (by decide +kernel) ⟨Nat.le_of_ble_eq_true rfl, Nat.le_of_ble_eq_true rfl⟩) hK hP [] rfl rfl rfl (Nat.le_of_ble_eq_true rfl) dX1_init_8 (Nat.le_of_ble_eq_true rfl) (Nat.le_of_ble_eq_true rfl) (fun r hv => ?_)
  rw [← eR] at hv
  subst hv
  refine va_put (D := D) (ci := 1) (v := .int (nI R)) (ty := .int) (C := RX1) (T := TX1) (N := 12) hx hb hts hin1 tyX1 tyX1_ok nmX1 hown hK hP hD hS 0 rfl rfl 1 (by decide) f13 (fun _ h9 => h9) rfl (by decide +kernel) rfl rfl (Nat.le_of_ble_eq_true rfl) dX1_init_11 (fun H locs hP hD hS => ?_)
  have hP : va_P D vwCl [(o, .inr (1, [.int 0, .int (nI R), .int 0, .null, .null, .null, .null, .null, .int 0, .null, .null, .null]))] H := hP
  have hD : va_D A [(o, .inr (1, [.int 0, .int (nI R), .int 0, .null, .null, .null, .null, .null, .int 0, .null, .null, .null]))] := hD
  refine lv_aload_n hx hb dX1_init_14 rfl (lv_at hl 0 rfl) ?_
  refine lv_iload_n hx hb dX1_init_15 rfl (lv_at hl 2 rfl) ?_
  refine lv_bipush (v := nI 60) hx hb dX1_init_16 (by decide +kernel) ?_
  refine rs_cRS (As := [.int cols, .int (nI 60)]) (rest := [.ref o]) ⟨hx, hb, hml, hown, hts⟩ hl.1 (c_nearest l D cI cols 60 (by omega) (by omega)) (va_cwS 2 hts gX1_init_X1_nearest rfl rfl rfl (by decide +kernel) ⟨Nat.le_of_ble_eq_true rfl, Nat.le_of_ble_eq_true rfl⟩) hK hP [] rfl rfl rfl (Nat.le_of_ble_eq_true rfl) dX1_init_18 (Nat.le_of_ble_eq_true rfl) (Nat.le_of_ble_eq_true rfl) (fun r hv => ?_)
  rw [← eC] at hv
  subst hv
  refine va_put (D := D) (ci := 1) (v := .int (nI C)) (ty := .int) (C := RX1) (T := TX1) (N := 12) hx hb hts hin1 tyX1 tyX1_ok nmX1 hown hK hP hD hS 0 rfl rfl 2 (by decide) f17 (fun _ h9 => h9) rfl (by decide +kernel) rfl rfl (Nat.le_of_ble_eq_true rfl) dX1_init_21 (fun H locs hP hD hS => ?_)
  have hP : va_P D vwCl [(o, .inr (1, [.int 0, .int (nI R), .int (nI C), .null, .null, .null, .null, .null, .int 0, .null, .null, .null]))] H := hP
  have hD : va_D A [(o, .inr (1, [.int 0, .int (nI R), .int (nI C), .null, .null, .null, .null, .null, .int 0, .null, .null, .null]))] := hD
  refine lv_aload_n hx hb dX1_init_24 rfl (lv_at hl 0 rfl) ?_
  refine lv_iload_n hx hb dX1_init_25 rfl (lv_at hl 3 rfl) ?_
  refine lv_sipush (v := nI 1000) hx hb dX1_init_26 (by decide +kernel) ?_
  refine rs_cRS (As := [.int cap, .int (nI 1000)]) (rest := [.ref o]) ⟨hx, hb, hml, hown, hts⟩ hl.1 (c_nearest l D cI cap 1000 (by omega) (by omega)) (va_cwS 2 hts gX1_init_X1_nearest rfl rfl rfl (by decide +kernel) ⟨Nat.le_of_ble_eq_true rfl, Nat.le_of_ble_eq_true rfl⟩) hK hP [] rfl rfl rfl (Nat.le_of_ble_eq_true rfl) dX1_init_29 (Nat.le_of_ble_eq_true rfl) (Nat.le_of_ble_eq_true rfl) (fun r hv => ?_)
  rw [← eK] at hv
  subst hv
  refine va_putF (D := D) (ci := 1) (v := .int (nI K)) (ty := .int) (C := RX1) (T := TX1) (N := 12) hx hb hts hin1 tyX1 tyX1_ok nmX1 hown hK hP hD hS 0 rfl rfl 0 (by decide) f20 (fun _ h9 => h9) rfl hin rfl (by decide +kernel) rfl rfl (Nat.le_of_ble_eq_true rfl) dX1_init_32 (fun H locs hP hD hS => ?_)
  have hP : va_P D vwCl [(o, .inr (1, [.int (nI K), .int (nI R), .int (nI C), .null, .null, .null, .null, .null, .int 0, .null, .null, .null]))] H := hP
  have hD : va_D A [(o, .inr (1, [.int (nI K), .int (nI R), .int (nI C), .null, .null, .null, .null, .null, .int 0, .null, .null, .null]))] := hD
  refine lv_aload_n hx hb dX1_init_35 rfl (lv_at hl 0 rfl) ?_
  refine va_get (D := D) (ci := 1) (v := .int (nI R)) (C := RX1) (T := TX1) (N := 12) hx hb hts hin1 hown hK hP 0 rfl rfl 1 (by decide) f13 (fun _ h9 => h9) rfl dX1_init_36 ?_
  refine lv_aload_n hx hb dX1_init_39 rfl (lv_at hl 0 rfl) ?_
  refine va_get (D := D) (ci := 1) (v := .int (nI C)) (C := RX1) (T := TX1) (N := 12) hx hb hts hin1 hown hK hP 0 rfl rfl 2 (by decide) f17 (fun _ h9 => h9) rfl dX1_init_40 ?_
  refine va_mmax hx hb (hml.trans hl.1.symm) hown (hts (.methodLink RX1 23 Lib.Math.max.name) (by decide +kernel)) (hts (.static Lib.Math.max.name) (by decide +kernel)) (hts (.initialized "java/lang/Math") (by decide +kernel)) (hts (.code Lib.Math.max.name Lib.Math.max.code 2 (some .int)) (by decide +kernel)) (Nat.le_of_ble_eq_true rfl) (Nat.le_of_ble_eq_true rfl) (Nat.le_of_ble_eq_true rfl) (Nat.le_of_ble_eq_true rfl) dX1_init_43 ?_
  refine rv_top ((ms_max (by omega) (by omega)).trans (congrArg nI eS.symm)) ?_
  refine lv_istore (lv' := [(4, .int (nI S)), (0, .ref o), (1, .int rows), (2, .int cols), (3, .int cap)]) hx hb dX1_init_46 hl (by decide) rfl (fun ls hl => ?_)
  refine lv_aload_n hx hb dX1_init_48 rfl (lv_at hl 1 rfl) ?_
  refine va_new (ci := 0) (fs := [.null, .null, .null]) (C := RX0) (T := TX0) (N := 3) hx hb hts hin0 tyX0 tyX0_ok hown (hts (.classLink RX1 28 RX0) (by decide +kernel)) (hts (.instantiable RX0 3) (by decide +kernel)) (hts (.initialized RX0) (by decide +kernel)) hK hP hD hS hA rfl (fun j hj => by rcases (show j = 0 ∨ j = 1 ∨ j = 2 by omega) with rfl | rfl | rfl <;> rfl) (show 0 + 1 ≤ 14 by omega) (show 0 + 3 ≤ 8000 by omega) dX1_init_49 (fun su H hP hD hS => ?_)
  have hP : va_P D vwCl [(o, .inr (1, [.int (nI K), .int (nI R), .int (nI C), .null, .null, .null, .null, .null, .int 0, .null, .null, .null])), (su, .inr (0, [.null, .null, .null]))] H := hP
  have hD : va_D A [(o, .inr (1, [.int (nI K), .int (nI R), .int (nI C), .null, .null, .null, .null, .null, .int 0, .null, .null, .null])), (su, .inr (0, [.null, .null, .null]))] := hD
  refine W.widen (k := 1) (n := 3) (by omega) (by omega) ?_
  refine lv_dup hx hb dX1_init_52 rfl ?_
  refine lv_iload hx hb dX1_init_53 (lv_at hl 0 rfl) ?_
  refine lv_aload_n hx hb dX1_init_55 rfl (lv_at hl 1 rfl) ?_
  refine va_get (D := D) (ci := 1) (v := .int (nI K)) (C := RX1) (T := TX1) (N := 12) hx hb hts hin1 hown hK hP 0 rfl rfl 0 (by decide) f20 (fun _ h9 => h9) rfl dX1_init_56 ?_
  refine rs_cVN (As := [.int (nI S), .int (nI K)]) (rest := [.ref su, .ref o]) (WR := [(o, .inr (1, [.int (nI K), .int (nI R), .int (nI C), .null, .null, .null, .null, .null, .int 0, .null, .null, .null]))]) ⟨hx, hb, hml, hown, hts⟩ hl.1 (c_Sinit l D cI su S K (by omega) (by omega)) (cwI 2 hts gX1_init_X0_init rfl rfl rfl (hts (.initialized RX0) (by decide +kernel)) (hts (.methodLink RX1 30 yX0_init) (by decide +kernel)) (hts (.instanceMethod yX0_init) (by decide +kernel)) rfl (by decide +kernel) ⟨Nat.le_of_ble_eq_true rfl, Nat.le_of_ble_eq_true rfl⟩) hK hP hD hS hA [1] [0] rfl rfl (by decide) (by decide) (by decide) rfl rfl (Nat.le_of_ble_eq_true rfl) dX1_init_59 (Nat.le_of_ble_eq_true rfl) (Nat.le_of_ble_eq_true rfl) (fun u H locs hu hP hD hS => ?_)
  obtain ⟨sa, sb, sc⟩ := u
  have hP : va_P D vwCl [(o, .inr (1, [.int (nI K), .int (nI R), .int (nI C), .null, .null, .null, .null, .null, .int 0, .null, .null, .null])), (su, .inr (0, [.ref sa, .ref sb, .ref sc])), (sa, .inl (cI, S + 1, .inl (fun _ => 0))), (sb, .inl (cI, K, .inl (fun _ => 0))), (sc, .inl (cI, K, .inl (fun _ => 0)))] H := hP
  have hD : va_D A [(o, .inr (1, [.int (nI K), .int (nI R), .int (nI C), .null, .null, .null, .null, .null, .int 0, .null, .null, .null])), (su, .inr (0, [.ref sa, .ref sb, .ref sc])), (sa, .inl (cI, S + 1, .inl (fun _ => 0))), (sb, .inl (cI, K, .inl (fun _ => 0))), (sc, .inl (cI, K, .inl (fun _ => 0)))] := hD
  refine W.widen (k := 4) (n := 2103) (by omega) (by omega) ?_
  refine va_put (D := D) (ci := 1) (v := .ref su) (ty := .object "RowSparse$Support") (C := RX1) (T := TX1) (N := 12) hx hb hts hin1 tyX1 tyX1_ok nmX1 hown hK hP hD hS 0 rfl rfl 3 (by decide) f33 (fun _ h9 => h9) rfl (by decide +kernel) rfl rfl (Nat.le_of_ble_eq_true rfl) dX1_init_62 (fun H locs hP hD hS => ?_)
  have hP : va_P D vwCl [(o, .inr (1, [.int (nI K), .int (nI R), .int (nI C), .ref su, .null, .null, .null, .null, .int 0, .null, .null, .null])), (su, .inr (0, [.ref sa, .ref sb, .ref sc])), (sa, .inl (cI, S + 1, .inl (fun _ => 0))), (sb, .inl (cI, K, .inl (fun _ => 0))), (sc, .inl (cI, K, .inl (fun _ => 0)))] H := hP
  have hD : va_D A [(o, .inr (1, [.int (nI K), .int (nI R), .int (nI C), .ref su, .null, .null, .null, .null, .int 0, .null, .null, .null])), (su, .inr (0, [.ref sa, .ref sb, .ref sc])), (sa, .inl (cI, S + 1, .inl (fun _ => 0))), (sb, .inl (cI, K, .inl (fun _ => 0))), (sc, .inl (cI, K, .inl (fun _ => 0)))] := hD
  refine lv_aload_n hx hb dX1_init_65 rfl (lv_at hl 1 rfl) ?_
  refine va_new (ci := 0) (fs := [.null, .null, .null]) (C := RX0) (T := TX0) (N := 3) hx hb hts hin0 tyX0 tyX0_ok hown (hts (.classLink RX1 28 RX0) (by decide +kernel)) (hts (.instantiable RX0 3) (by decide +kernel)) (hts (.initialized RX0) (by decide +kernel)) hK hP hD hS hA rfl (fun j hj => by rcases (show j = 0 ∨ j = 1 ∨ j = 2 by omega) with rfl | rfl | rfl <;> rfl) (show 4 + 1 ≤ 14 by omega) (show 2103 + 3 ≤ 8000 by omega) dX1_init_66 (fun sp H hP hD hS => ?_)
  have hP : va_P D vwCl [(o, .inr (1, [.int (nI K), .int (nI R), .int (nI C), .ref su, .null, .null, .null, .null, .int 0, .null, .null, .null])), (su, .inr (0, [.ref sa, .ref sb, .ref sc])), (sa, .inl (cI, S + 1, .inl (fun _ => 0))), (sb, .inl (cI, K, .inl (fun _ => 0))), (sc, .inl (cI, K, .inl (fun _ => 0))), (sp, .inr (0, [.null, .null, .null]))] H := hP
  have hD : va_D A [(o, .inr (1, [.int (nI K), .int (nI R), .int (nI C), .ref su, .null, .null, .null, .null, .int 0, .null, .null, .null])), (su, .inr (0, [.ref sa, .ref sb, .ref sc])), (sa, .inl (cI, S + 1, .inl (fun _ => 0))), (sb, .inl (cI, K, .inl (fun _ => 0))), (sc, .inl (cI, K, .inl (fun _ => 0))), (sp, .inr (0, [.null, .null, .null]))] := hD
  refine W.widen (k := 5) (n := 2106) (by omega) (by omega) ?_
  refine lv_dup hx hb dX1_init_69 rfl ?_
  refine lv_iload hx hb dX1_init_70 (lv_at hl 0 rfl) ?_
  refine lv_aload_n hx hb dX1_init_72 rfl (lv_at hl 1 rfl) ?_
  refine va_get (D := D) (ci := 1) (v := .int (nI K)) (C := RX1) (T := TX1) (N := 12) hx hb hts hin1 hown hK hP 0 rfl rfl 0 (by decide) f20 (fun _ h9 => h9) rfl dX1_init_73 ?_
  refine rs_cVN (As := [.int (nI S), .int (nI K)]) (rest := [.ref sp, .ref o]) (WR := [(o, .inr (1, [.int (nI K), .int (nI R), .int (nI C), .ref su, .null, .null, .null, .null, .int 0, .null, .null, .null])), (su, .inr (0, [.ref sa, .ref sb, .ref sc])), (sa, .inl (cI, S + 1, .inl (fun _ => 0))), (sb, .inl (cI, K, .inl (fun _ => 0))), (sc, .inl (cI, K, .inl (fun _ => 0)))]) ⟨hx, hb, hml, hown, hts⟩ hl.1 (c_Sinit l D cI sp S K (by omega) (by omega)) (cwI 2 hts gX1_init_X0_init rfl rfl rfl (hts (.initialized RX0) (by decide +kernel)) (hts (.methodLink RX1 30 yX0_init) (by decide +kernel)) (hts (.instanceMethod yX0_init) (by decide +kernel)) rfl (by decide +kernel) ⟨Nat.le_of_ble_eq_true rfl, Nat.le_of_ble_eq_true rfl⟩) hK hP hD hS hA [5] [0, 1, 2, 3, 4] rfl rfl (by decide) (by decide) (by decide) rfl rfl (Nat.le_of_ble_eq_true rfl) dX1_init_76 (Nat.le_of_ble_eq_true rfl) (Nat.le_of_ble_eq_true rfl) (fun u H locs hu hP hD hS => ?_)
  obtain ⟨ta, tb, tc⟩ := u
  have hP : va_P D vwCl [(o, .inr (1, [.int (nI K), .int (nI R), .int (nI C), .ref su, .null, .null, .null, .null, .int 0, .null, .null, .null])), (su, .inr (0, [.ref sa, .ref sb, .ref sc])), (sa, .inl (cI, S + 1, .inl (fun _ => 0))), (sb, .inl (cI, K, .inl (fun _ => 0))), (sc, .inl (cI, K, .inl (fun _ => 0))), (sp, .inr (0, [.ref ta, .ref tb, .ref tc])), (ta, .inl (cI, S + 1, .inl (fun _ => 0))), (tb, .inl (cI, K, .inl (fun _ => 0))), (tc, .inl (cI, K, .inl (fun _ => 0)))] H := hP
  have hD : va_D A [(o, .inr (1, [.int (nI K), .int (nI R), .int (nI C), .ref su, .null, .null, .null, .null, .int 0, .null, .null, .null])), (su, .inr (0, [.ref sa, .ref sb, .ref sc])), (sa, .inl (cI, S + 1, .inl (fun _ => 0))), (sb, .inl (cI, K, .inl (fun _ => 0))), (sc, .inl (cI, K, .inl (fun _ => 0))), (sp, .inr (0, [.ref ta, .ref tb, .ref tc])), (ta, .inl (cI, S + 1, .inl (fun _ => 0))), (tb, .inl (cI, K, .inl (fun _ => 0))), (tc, .inl (cI, K, .inl (fun _ => 0)))] := hD
  refine W.widen (k := 8) (n := 4206) (by omega) (by omega) ?_
  refine va_put (D := D) (ci := 1) (v := .ref sp) (ty := .object "RowSparse$Support") (C := RX1) (T := TX1) (N := 12) hx hb hts hin1 tyX1 tyX1_ok nmX1 hown hK hP hD hS 0 rfl rfl 4 (by decide) f37 (fun _ h9 => h9) rfl (by decide +kernel) rfl rfl (Nat.le_of_ble_eq_true rfl) dX1_init_79 (fun H locs hP hD hS => ?_)
  have hP : va_P D vwCl [(o, .inr (1, [.int (nI K), .int (nI R), .int (nI C), .ref su, .ref sp, .null, .null, .null, .int 0, .null, .null, .null])), (su, .inr (0, [.ref sa, .ref sb, .ref sc])), (sa, .inl (cI, S + 1, .inl (fun _ => 0))), (sb, .inl (cI, K, .inl (fun _ => 0))), (sc, .inl (cI, K, .inl (fun _ => 0))), (sp, .inr (0, [.ref ta, .ref tb, .ref tc])), (ta, .inl (cI, S + 1, .inl (fun _ => 0))), (tb, .inl (cI, K, .inl (fun _ => 0))), (tc, .inl (cI, K, .inl (fun _ => 0)))] H := hP
  have hD : va_D A [(o, .inr (1, [.int (nI K), .int (nI R), .int (nI C), .ref su, .ref sp, .null, .null, .null, .int 0, .null, .null, .null])), (su, .inr (0, [.ref sa, .ref sb, .ref sc])), (sa, .inl (cI, S + 1, .inl (fun _ => 0))), (sb, .inl (cI, K, .inl (fun _ => 0))), (sc, .inl (cI, K, .inl (fun _ => 0))), (sp, .inr (0, [.ref ta, .ref tb, .ref tc])), (ta, .inl (cI, S + 1, .inl (fun _ => 0))), (tb, .inl (cI, K, .inl (fun _ => 0))), (tc, .inl (cI, K, .inl (fun _ => 0)))] := hD
  refine lv_aload_n hx hb dX1_init_82 rfl (lv_at hl 1 rfl) ?_
  refine lv_aload_n hx hb dX1_init_83 rfl (lv_at hl 1 rfl) ?_
  refine va_get (D := D) (ci := 1) (v := .int (nI K)) (C := RX1) (T := TX1) (N := 12) hx hb hts hin1 hown hK hP 0 rfl rfl 0 (by decide) f20 (fun _ h9 => h9) rfl dX1_init_84 ?_
  refine rs_newa (N := K) hx hb harr hK hP hD hS hA (by omega) (show 8 + 1 ≤ 14 by omega) (show 4206 + K ≤ 8000 by omega) dX1_init_87 (fun ar H hP hD hS => ?_)
  have hP : va_P D vwCl [(o, .inr (1, [.int (nI K), .int (nI R), .int (nI C), .ref su, .ref sp, .null, .null, .null, .int 0, .null, .null, .null])), (su, .inr (0, [.ref sa, .ref sb, .ref sc])), (sa, .inl (cI, S + 1, .inl (fun _ => 0))), (sb, .inl (cI, K, .inl (fun _ => 0))), (sc, .inl (cI, K, .inl (fun _ => 0))), (sp, .inr (0, [.ref ta, .ref tb, .ref tc])), (ta, .inl (cI, S + 1, .inl (fun _ => 0))), (tb, .inl (cI, K, .inl (fun _ => 0))), (tc, .inl (cI, K, .inl (fun _ => 0))), (ar, .inl (cI, K, .inl (fun _ => 0)))] H := hP
  have hD : va_D A [(o, .inr (1, [.int (nI K), .int (nI R), .int (nI C), .ref su, .ref sp, .null, .null, .null, .int 0, .null, .null, .null])), (su, .inr (0, [.ref sa, .ref sb, .ref sc])), (sa, .inl (cI, S + 1, .inl (fun _ => 0))), (sb, .inl (cI, K, .inl (fun _ => 0))), (sc, .inl (cI, K, .inl (fun _ => 0))), (sp, .inr (0, [.ref ta, .ref tb, .ref tc])), (ta, .inl (cI, S + 1, .inl (fun _ => 0))), (tb, .inl (cI, K, .inl (fun _ => 0))), (tc, .inl (cI, K, .inl (fun _ => 0))), (ar, .inl (cI, K, .inl (fun _ => 0)))] := hD
  refine W.widen (k := 9) (n := 5206) (by omega) (by omega) ?_
  refine va_putF (D := D) (ci := 1) (v := .ref ar) (ty := .array .int) (C := RX1) (T := TX1) (N := 12) hx hb hts hin1 tyX1 tyX1_ok nmX1 hown hK hP hD hS 0 rfl rfl 5 (by decide) f40 (fun _ h9 => h9) rfl hin rfl (by decide +kernel) rfl rfl (Nat.le_of_ble_eq_true rfl) dX1_init_89 (fun H locs hP hD hS => ?_)
  have hP : va_P D vwCl [(o, .inr (1, [.int (nI K), .int (nI R), .int (nI C), .ref su, .ref sp, .ref ar, .null, .null, .int 0, .null, .null, .null])), (su, .inr (0, [.ref sa, .ref sb, .ref sc])), (sa, .inl (cI, S + 1, .inl (fun _ => 0))), (sb, .inl (cI, K, .inl (fun _ => 0))), (sc, .inl (cI, K, .inl (fun _ => 0))), (sp, .inr (0, [.ref ta, .ref tb, .ref tc])), (ta, .inl (cI, S + 1, .inl (fun _ => 0))), (tb, .inl (cI, K, .inl (fun _ => 0))), (tc, .inl (cI, K, .inl (fun _ => 0))), (ar, .inl (cI, K, .inl (fun _ => 0)))] H := hP
  have hD : va_D A [(o, .inr (1, [.int (nI K), .int (nI R), .int (nI C), .ref su, .ref sp, .ref ar, .null, .null, .int 0, .null, .null, .null])), (su, .inr (0, [.ref sa, .ref sb, .ref sc])), (sa, .inl (cI, S + 1, .inl (fun _ => 0))), (sb, .inl (cI, K, .inl (fun _ => 0))), (sc, .inl (cI, K, .inl (fun _ => 0))), (sp, .inr (0, [.ref ta, .ref tb, .ref tc])), (ta, .inl (cI, S + 1, .inl (fun _ => 0))), (tb, .inl (cI, K, .inl (fun _ => 0))), (tc, .inl (cI, K, .inl (fun _ => 0))), (ar, .inl (cI, K, .inl (fun _ => 0)))] := hD
  refine lv_aload_n hx hb dX1_init_92 rfl (lv_at hl 1 rfl) ?_
  refine lv_aload_n hx hb dX1_init_93 rfl (lv_at hl 1 rfl) ?_
  refine va_get (D := D) (ci := 1) (v := .int (nI K)) (C := RX1) (T := TX1) (N := 12) hx hb hts hin1 hown hK hP 0 rfl rfl 0 (by decide) f20 (fun _ h9 => h9) rfl dX1_init_94 ?_
  refine rs_newa (N := K) hx hb harr hK hP hD hS hA (by omega) (show 9 + 1 ≤ 14 by omega) (show 5206 + K ≤ 8000 by omega) dX1_init_97 (fun ac H hP hD hS => ?_)
  have hP : va_P D vwCl [(o, .inr (1, [.int (nI K), .int (nI R), .int (nI C), .ref su, .ref sp, .ref ar, .null, .null, .int 0, .null, .null, .null])), (su, .inr (0, [.ref sa, .ref sb, .ref sc])), (sa, .inl (cI, S + 1, .inl (fun _ => 0))), (sb, .inl (cI, K, .inl (fun _ => 0))), (sc, .inl (cI, K, .inl (fun _ => 0))), (sp, .inr (0, [.ref ta, .ref tb, .ref tc])), (ta, .inl (cI, S + 1, .inl (fun _ => 0))), (tb, .inl (cI, K, .inl (fun _ => 0))), (tc, .inl (cI, K, .inl (fun _ => 0))), (ar, .inl (cI, K, .inl (fun _ => 0))), (ac, .inl (cI, K, .inl (fun _ => 0)))] H := hP
  have hD : va_D A [(o, .inr (1, [.int (nI K), .int (nI R), .int (nI C), .ref su, .ref sp, .ref ar, .null, .null, .int 0, .null, .null, .null])), (su, .inr (0, [.ref sa, .ref sb, .ref sc])), (sa, .inl (cI, S + 1, .inl (fun _ => 0))), (sb, .inl (cI, K, .inl (fun _ => 0))), (sc, .inl (cI, K, .inl (fun _ => 0))), (sp, .inr (0, [.ref ta, .ref tb, .ref tc])), (ta, .inl (cI, S + 1, .inl (fun _ => 0))), (tb, .inl (cI, K, .inl (fun _ => 0))), (tc, .inl (cI, K, .inl (fun _ => 0))), (ar, .inl (cI, K, .inl (fun _ => 0))), (ac, .inl (cI, K, .inl (fun _ => 0)))] := hD
  refine W.widen (k := 10) (n := 6206) (by omega) (by omega) ?_
  refine va_putF (D := D) (ci := 1) (v := .ref ac) (ty := .array .int) (C := RX1) (T := TX1) (N := 12) hx hb hts hin1 tyX1 tyX1_ok nmX1 hown hK hP hD hS 0 rfl rfl 6 (by decide) f44 (fun _ h9 => h9) rfl hin rfl (by decide +kernel) rfl rfl (Nat.le_of_ble_eq_true rfl) dX1_init_99 (fun H locs hP hD hS => ?_)
  have hP : va_P D vwCl [(o, .inr (1, [.int (nI K), .int (nI R), .int (nI C), .ref su, .ref sp, .ref ar, .ref ac, .null, .int 0, .null, .null, .null])), (su, .inr (0, [.ref sa, .ref sb, .ref sc])), (sa, .inl (cI, S + 1, .inl (fun _ => 0))), (sb, .inl (cI, K, .inl (fun _ => 0))), (sc, .inl (cI, K, .inl (fun _ => 0))), (sp, .inr (0, [.ref ta, .ref tb, .ref tc])), (ta, .inl (cI, S + 1, .inl (fun _ => 0))), (tb, .inl (cI, K, .inl (fun _ => 0))), (tc, .inl (cI, K, .inl (fun _ => 0))), (ar, .inl (cI, K, .inl (fun _ => 0))), (ac, .inl (cI, K, .inl (fun _ => 0)))] H := hP
  have hD : va_D A [(o, .inr (1, [.int (nI K), .int (nI R), .int (nI C), .ref su, .ref sp, .ref ar, .ref ac, .null, .int 0, .null, .null, .null])), (su, .inr (0, [.ref sa, .ref sb, .ref sc])), (sa, .inl (cI, S + 1, .inl (fun _ => 0))), (sb, .inl (cI, K, .inl (fun _ => 0))), (sc, .inl (cI, K, .inl (fun _ => 0))), (sp, .inr (0, [.ref ta, .ref tb, .ref tc])), (ta, .inl (cI, S + 1, .inl (fun _ => 0))), (tb, .inl (cI, K, .inl (fun _ => 0))), (tc, .inl (cI, K, .inl (fun _ => 0))), (ar, .inl (cI, K, .inl (fun _ => 0))), (ac, .inl (cI, K, .inl (fun _ => 0)))] := hD
  refine lv_aload_n hx hb dX1_init_102 rfl (lv_at hl 1 rfl) ?_
  refine lv_aload_n hx hb dX1_init_103 rfl (lv_at hl 1 rfl) ?_
  refine va_get (D := D) (ci := 1) (v := .int (nI K)) (C := RX1) (T := TX1) (N := 12) hx hb hts hin1 hown hK hP 0 rfl rfl 0 (by decide) f20 (fun _ h9 => h9) rfl dX1_init_104 ?_
  refine rs_newa (N := K) hx hb harr hK hP hD hS hA (by omega) (show 10 + 1 ≤ 14 by omega) (show 6206 + K ≤ 8000 by omega) dX1_init_107 (fun av H hP hD hS => ?_)
  have hP : va_P D vwCl [(o, .inr (1, [.int (nI K), .int (nI R), .int (nI C), .ref su, .ref sp, .ref ar, .ref ac, .null, .int 0, .null, .null, .null])), (su, .inr (0, [.ref sa, .ref sb, .ref sc])), (sa, .inl (cI, S + 1, .inl (fun _ => 0))), (sb, .inl (cI, K, .inl (fun _ => 0))), (sc, .inl (cI, K, .inl (fun _ => 0))), (sp, .inr (0, [.ref ta, .ref tb, .ref tc])), (ta, .inl (cI, S + 1, .inl (fun _ => 0))), (tb, .inl (cI, K, .inl (fun _ => 0))), (tc, .inl (cI, K, .inl (fun _ => 0))), (ar, .inl (cI, K, .inl (fun _ => 0))), (ac, .inl (cI, K, .inl (fun _ => 0))), (av, .inl (cI, K, .inl (fun _ => 0)))] H := hP
  have hD : va_D A [(o, .inr (1, [.int (nI K), .int (nI R), .int (nI C), .ref su, .ref sp, .ref ar, .ref ac, .null, .int 0, .null, .null, .null])), (su, .inr (0, [.ref sa, .ref sb, .ref sc])), (sa, .inl (cI, S + 1, .inl (fun _ => 0))), (sb, .inl (cI, K, .inl (fun _ => 0))), (sc, .inl (cI, K, .inl (fun _ => 0))), (sp, .inr (0, [.ref ta, .ref tb, .ref tc])), (ta, .inl (cI, S + 1, .inl (fun _ => 0))), (tb, .inl (cI, K, .inl (fun _ => 0))), (tc, .inl (cI, K, .inl (fun _ => 0))), (ar, .inl (cI, K, .inl (fun _ => 0))), (ac, .inl (cI, K, .inl (fun _ => 0))), (av, .inl (cI, K, .inl (fun _ => 0)))] := hD
  refine W.widen (k := 11) (n := 7206) (by omega) (by omega) ?_
  refine va_putF (D := D) (ci := 1) (v := .ref av) (ty := .array .int) (C := RX1) (T := TX1) (N := 12) hx hb hts hin1 tyX1 tyX1_ok nmX1 hown hK hP hD hS 0 rfl rfl 7 (by decide) f47 (fun _ h9 => h9) rfl hin rfl (by decide +kernel) rfl rfl (Nat.le_of_ble_eq_true rfl) dX1_init_109 (fun H locs hP hD hS => ?_)
  have hP : va_P D vwCl [(o, .inr (1, [.int (nI K), .int (nI R), .int (nI C), .ref su, .ref sp, .ref ar, .ref ac, .ref av, .int 0, .null, .null, .null])), (su, .inr (0, [.ref sa, .ref sb, .ref sc])), (sa, .inl (cI, S + 1, .inl (fun _ => 0))), (sb, .inl (cI, K, .inl (fun _ => 0))), (sc, .inl (cI, K, .inl (fun _ => 0))), (sp, .inr (0, [.ref ta, .ref tb, .ref tc])), (ta, .inl (cI, S + 1, .inl (fun _ => 0))), (tb, .inl (cI, K, .inl (fun _ => 0))), (tc, .inl (cI, K, .inl (fun _ => 0))), (ar, .inl (cI, K, .inl (fun _ => 0))), (ac, .inl (cI, K, .inl (fun _ => 0))), (av, .inl (cI, K, .inl (fun _ => 0)))] H := hP
  have hD : va_D A [(o, .inr (1, [.int (nI K), .int (nI R), .int (nI C), .ref su, .ref sp, .ref ar, .ref ac, .ref av, .int 0, .null, .null, .null])), (su, .inr (0, [.ref sa, .ref sb, .ref sc])), (sa, .inl (cI, S + 1, .inl (fun _ => 0))), (sb, .inl (cI, K, .inl (fun _ => 0))), (sc, .inl (cI, K, .inl (fun _ => 0))), (sp, .inr (0, [.ref ta, .ref tb, .ref tc])), (ta, .inl (cI, S + 1, .inl (fun _ => 0))), (tb, .inl (cI, K, .inl (fun _ => 0))), (tc, .inl (cI, K, .inl (fun _ => 0))), (ar, .inl (cI, K, .inl (fun _ => 0))), (ac, .inl (cI, K, .inl (fun _ => 0))), (av, .inl (cI, K, .inl (fun _ => 0)))] := hD
  refine lv_aload_n hx hb dX1_init_112 rfl (lv_at hl 1 rfl) ?_
  refine lv_iconst (v := nI 0) hx hb dX1_init_113 (by decide +kernel) ?_
  refine va_put (D := D) (ci := 1) (v := .int (nI 0)) (ty := .int) (C := RX1) (T := TX1) (N := 12) hx hb hts hin1 tyX1 tyX1_ok nmX1 hown hK hP hD hS 0 rfl rfl 8 (by decide) f50 (fun _ h9 => h9) rfl (by decide +kernel) rfl rfl (Nat.le_of_ble_eq_true rfl) dX1_init_114 (fun H locs hP hD hS => ?_)
  have hP : va_P D vwCl [(o, .inr (1, [.int (nI K), .int (nI R), .int (nI C), .ref su, .ref sp, .ref ar, .ref ac, .ref av, .int (nI 0), .null, .null, .null])), (su, .inr (0, [.ref sa, .ref sb, .ref sc])), (sa, .inl (cI, S + 1, .inl (fun _ => 0))), (sb, .inl (cI, K, .inl (fun _ => 0))), (sc, .inl (cI, K, .inl (fun _ => 0))), (sp, .inr (0, [.ref ta, .ref tb, .ref tc])), (ta, .inl (cI, S + 1, .inl (fun _ => 0))), (tb, .inl (cI, K, .inl (fun _ => 0))), (tc, .inl (cI, K, .inl (fun _ => 0))), (ar, .inl (cI, K, .inl (fun _ => 0))), (ac, .inl (cI, K, .inl (fun _ => 0))), (av, .inl (cI, K, .inl (fun _ => 0)))] H := hP
  have hD : va_D A [(o, .inr (1, [.int (nI K), .int (nI R), .int (nI C), .ref su, .ref sp, .ref ar, .ref ac, .ref av, .int (nI 0), .null, .null, .null])), (su, .inr (0, [.ref sa, .ref sb, .ref sc])), (sa, .inl (cI, S + 1, .inl (fun _ => 0))), (sb, .inl (cI, K, .inl (fun _ => 0))), (sc, .inl (cI, K, .inl (fun _ => 0))), (sp, .inr (0, [.ref ta, .ref tb, .ref tc])), (ta, .inl (cI, S + 1, .inl (fun _ => 0))), (tb, .inl (cI, K, .inl (fun _ => 0))), (tc, .inl (cI, K, .inl (fun _ => 0))), (ar, .inl (cI, K, .inl (fun _ => 0))), (ac, .inl (cI, K, .inl (fun _ => 0))), (av, .inl (cI, K, .inl (fun _ => 0)))] := hD
  refine lv_aload_n hx hb dX1_init_117 rfl (lv_at hl 1 rfl) ?_
  refine lv_iload hx hb dX1_init_118 (lv_at hl 0 rfl) ?_
  refine rs_newa (N := S) hx hb harr hK hP hD hS hA (by omega) (show 11 + 1 ≤ 14 by omega) (show 7206 + S ≤ 8000 by omega) dX1_init_120 (fun vx H hP hD hS => ?_)
  have hP : va_P D vwCl [(o, .inr (1, [.int (nI K), .int (nI R), .int (nI C), .ref su, .ref sp, .ref ar, .ref ac, .ref av, .int (nI 0), .null, .null, .null])), (su, .inr (0, [.ref sa, .ref sb, .ref sc])), (sa, .inl (cI, S + 1, .inl (fun _ => 0))), (sb, .inl (cI, K, .inl (fun _ => 0))), (sc, .inl (cI, K, .inl (fun _ => 0))), (sp, .inr (0, [.ref ta, .ref tb, .ref tc])), (ta, .inl (cI, S + 1, .inl (fun _ => 0))), (tb, .inl (cI, K, .inl (fun _ => 0))), (tc, .inl (cI, K, .inl (fun _ => 0))), (ar, .inl (cI, K, .inl (fun _ => 0))), (ac, .inl (cI, K, .inl (fun _ => 0))), (av, .inl (cI, K, .inl (fun _ => 0))), (vx, .inl (cI, S, .inl (fun _ => 0)))] H := hP
  have hD : va_D A [(o, .inr (1, [.int (nI K), .int (nI R), .int (nI C), .ref su, .ref sp, .ref ar, .ref ac, .ref av, .int (nI 0), .null, .null, .null])), (su, .inr (0, [.ref sa, .ref sb, .ref sc])), (sa, .inl (cI, S + 1, .inl (fun _ => 0))), (sb, .inl (cI, K, .inl (fun _ => 0))), (sc, .inl (cI, K, .inl (fun _ => 0))), (sp, .inr (0, [.ref ta, .ref tb, .ref tc])), (ta, .inl (cI, S + 1, .inl (fun _ => 0))), (tb, .inl (cI, K, .inl (fun _ => 0))), (tc, .inl (cI, K, .inl (fun _ => 0))), (ar, .inl (cI, K, .inl (fun _ => 0))), (ac, .inl (cI, K, .inl (fun _ => 0))), (av, .inl (cI, K, .inl (fun _ => 0))), (vx, .inl (cI, S, .inl (fun _ => 0)))] := hD
  refine W.widen (k := 12) (n := 7266) (by omega) (by omega) ?_
  refine va_putF (D := D) (ci := 1) (v := .ref vx) (ty := .array .int) (C := RX1) (T := TX1) (N := 12) hx hb hts hin1 tyX1 tyX1_ok nmX1 hown hK hP hD hS 0 rfl rfl 9 (by decide) f53 (fun _ h9 => h9) rfl hin rfl (by decide +kernel) rfl rfl (Nat.le_of_ble_eq_true rfl) dX1_init_122 (fun H locs hP hD hS => ?_)
  have hP : va_P D vwCl [(o, .inr (1, [.int (nI K), .int (nI R), .int (nI C), .ref su, .ref sp, .ref ar, .ref ac, .ref av, .int (nI 0), .ref vx, .null, .null])), (su, .inr (0, [.ref sa, .ref sb, .ref sc])), (sa, .inl (cI, S + 1, .inl (fun _ => 0))), (sb, .inl (cI, K, .inl (fun _ => 0))), (sc, .inl (cI, K, .inl (fun _ => 0))), (sp, .inr (0, [.ref ta, .ref tb, .ref tc])), (ta, .inl (cI, S + 1, .inl (fun _ => 0))), (tb, .inl (cI, K, .inl (fun _ => 0))), (tc, .inl (cI, K, .inl (fun _ => 0))), (ar, .inl (cI, K, .inl (fun _ => 0))), (ac, .inl (cI, K, .inl (fun _ => 0))), (av, .inl (cI, K, .inl (fun _ => 0))), (vx, .inl (cI, S, .inl (fun _ => 0)))] H := hP
  have hD : va_D A [(o, .inr (1, [.int (nI K), .int (nI R), .int (nI C), .ref su, .ref sp, .ref ar, .ref ac, .ref av, .int (nI 0), .ref vx, .null, .null])), (su, .inr (0, [.ref sa, .ref sb, .ref sc])), (sa, .inl (cI, S + 1, .inl (fun _ => 0))), (sb, .inl (cI, K, .inl (fun _ => 0))), (sc, .inl (cI, K, .inl (fun _ => 0))), (sp, .inr (0, [.ref ta, .ref tb, .ref tc])), (ta, .inl (cI, S + 1, .inl (fun _ => 0))), (tb, .inl (cI, K, .inl (fun _ => 0))), (tc, .inl (cI, K, .inl (fun _ => 0))), (ar, .inl (cI, K, .inl (fun _ => 0))), (ac, .inl (cI, K, .inl (fun _ => 0))), (av, .inl (cI, K, .inl (fun _ => 0))), (vx, .inl (cI, S, .inl (fun _ => 0)))] := hD
  refine lv_aload_n hx hb dX1_init_125 rfl (lv_at hl 1 rfl) ?_
  refine lv_iload hx hb dX1_init_126 (lv_at hl 0 rfl) ?_
  refine rs_newa (N := S) hx hb harr hK hP hD hS hA (by omega) (show 12 + 1 ≤ 14 by omega) (show 7266 + S ≤ 8000 by omega) dX1_init_128 (fun py H hP hD hS => ?_)
  have hP : va_P D vwCl [(o, .inr (1, [.int (nI K), .int (nI R), .int (nI C), .ref su, .ref sp, .ref ar, .ref ac, .ref av, .int (nI 0), .ref vx, .null, .null])), (su, .inr (0, [.ref sa, .ref sb, .ref sc])), (sa, .inl (cI, S + 1, .inl (fun _ => 0))), (sb, .inl (cI, K, .inl (fun _ => 0))), (sc, .inl (cI, K, .inl (fun _ => 0))), (sp, .inr (0, [.ref ta, .ref tb, .ref tc])), (ta, .inl (cI, S + 1, .inl (fun _ => 0))), (tb, .inl (cI, K, .inl (fun _ => 0))), (tc, .inl (cI, K, .inl (fun _ => 0))), (ar, .inl (cI, K, .inl (fun _ => 0))), (ac, .inl (cI, K, .inl (fun _ => 0))), (av, .inl (cI, K, .inl (fun _ => 0))), (vx, .inl (cI, S, .inl (fun _ => 0))), (py, .inl (cI, S, .inl (fun _ => 0)))] H := hP
  have hD : va_D A [(o, .inr (1, [.int (nI K), .int (nI R), .int (nI C), .ref su, .ref sp, .ref ar, .ref ac, .ref av, .int (nI 0), .ref vx, .null, .null])), (su, .inr (0, [.ref sa, .ref sb, .ref sc])), (sa, .inl (cI, S + 1, .inl (fun _ => 0))), (sb, .inl (cI, K, .inl (fun _ => 0))), (sc, .inl (cI, K, .inl (fun _ => 0))), (sp, .inr (0, [.ref ta, .ref tb, .ref tc])), (ta, .inl (cI, S + 1, .inl (fun _ => 0))), (tb, .inl (cI, K, .inl (fun _ => 0))), (tc, .inl (cI, K, .inl (fun _ => 0))), (ar, .inl (cI, K, .inl (fun _ => 0))), (ac, .inl (cI, K, .inl (fun _ => 0))), (av, .inl (cI, K, .inl (fun _ => 0))), (vx, .inl (cI, S, .inl (fun _ => 0))), (py, .inl (cI, S, .inl (fun _ => 0)))] := hD
  refine W.widen (k := 13) (n := 7326) (by omega) (by omega) ?_
  refine va_putF (D := D) (ci := 1) (v := .ref py) (ty := .array .int) (C := RX1) (T := TX1) (N := 12) hx hb hts hin1 tyX1 tyX1_ok nmX1 hown hK hP hD hS 0 rfl rfl 10 (by decide) f56 (fun _ h9 => h9) rfl hin rfl (by decide +kernel) rfl rfl (Nat.le_of_ble_eq_true rfl) dX1_init_130 (fun H locs hP hD hS => ?_)
  have hP : va_P D vwCl [(o, .inr (1, [.int (nI K), .int (nI R), .int (nI C), .ref su, .ref sp, .ref ar, .ref ac, .ref av, .int (nI 0), .ref vx, .ref py, .null])), (su, .inr (0, [.ref sa, .ref sb, .ref sc])), (sa, .inl (cI, S + 1, .inl (fun _ => 0))), (sb, .inl (cI, K, .inl (fun _ => 0))), (sc, .inl (cI, K, .inl (fun _ => 0))), (sp, .inr (0, [.ref ta, .ref tb, .ref tc])), (ta, .inl (cI, S + 1, .inl (fun _ => 0))), (tb, .inl (cI, K, .inl (fun _ => 0))), (tc, .inl (cI, K, .inl (fun _ => 0))), (ar, .inl (cI, K, .inl (fun _ => 0))), (ac, .inl (cI, K, .inl (fun _ => 0))), (av, .inl (cI, K, .inl (fun _ => 0))), (vx, .inl (cI, S, .inl (fun _ => 0))), (py, .inl (cI, S, .inl (fun _ => 0)))] H := hP
  have hD : va_D A [(o, .inr (1, [.int (nI K), .int (nI R), .int (nI C), .ref su, .ref sp, .ref ar, .ref ac, .ref av, .int (nI 0), .ref vx, .ref py, .null])), (su, .inr (0, [.ref sa, .ref sb, .ref sc])), (sa, .inl (cI, S + 1, .inl (fun _ => 0))), (sb, .inl (cI, K, .inl (fun _ => 0))), (sc, .inl (cI, K, .inl (fun _ => 0))), (sp, .inr (0, [.ref ta, .ref tb, .ref tc])), (ta, .inl (cI, S + 1, .inl (fun _ => 0))), (tb, .inl (cI, K, .inl (fun _ => 0))), (tc, .inl (cI, K, .inl (fun _ => 0))), (ar, .inl (cI, K, .inl (fun _ => 0))), (ac, .inl (cI, K, .inl (fun _ => 0))), (av, .inl (cI, K, .inl (fun _ => 0))), (vx, .inl (cI, S, .inl (fun _ => 0))), (py, .inl (cI, S, .inl (fun _ => 0)))] := hD
  refine lv_aload_n hx hb dX1_init_133 rfl (lv_at hl 1 rfl) ?_
  refine lv_iload hx hb dX1_init_134 (lv_at hl 0 rfl) ?_
  refine rs_newa (N := S) hx hb harr hK hP hD hS hA (by omega) (show 13 + 1 ≤ 14 by omega) (show 7326 + S ≤ 8000 by omega) dX1_init_136 (fun li H hP hD hS => ?_)
  have hP : va_P D vwCl [(o, .inr (1, [.int (nI K), .int (nI R), .int (nI C), .ref su, .ref sp, .ref ar, .ref ac, .ref av, .int (nI 0), .ref vx, .ref py, .null])), (su, .inr (0, [.ref sa, .ref sb, .ref sc])), (sa, .inl (cI, S + 1, .inl (fun _ => 0))), (sb, .inl (cI, K, .inl (fun _ => 0))), (sc, .inl (cI, K, .inl (fun _ => 0))), (sp, .inr (0, [.ref ta, .ref tb, .ref tc])), (ta, .inl (cI, S + 1, .inl (fun _ => 0))), (tb, .inl (cI, K, .inl (fun _ => 0))), (tc, .inl (cI, K, .inl (fun _ => 0))), (ar, .inl (cI, K, .inl (fun _ => 0))), (ac, .inl (cI, K, .inl (fun _ => 0))), (av, .inl (cI, K, .inl (fun _ => 0))), (vx, .inl (cI, S, .inl (fun _ => 0))), (py, .inl (cI, S, .inl (fun _ => 0))), (li, .inl (cI, S, .inl (fun _ => 0)))] H := hP
  have hD : va_D A [(o, .inr (1, [.int (nI K), .int (nI R), .int (nI C), .ref su, .ref sp, .ref ar, .ref ac, .ref av, .int (nI 0), .ref vx, .ref py, .null])), (su, .inr (0, [.ref sa, .ref sb, .ref sc])), (sa, .inl (cI, S + 1, .inl (fun _ => 0))), (sb, .inl (cI, K, .inl (fun _ => 0))), (sc, .inl (cI, K, .inl (fun _ => 0))), (sp, .inr (0, [.ref ta, .ref tb, .ref tc])), (ta, .inl (cI, S + 1, .inl (fun _ => 0))), (tb, .inl (cI, K, .inl (fun _ => 0))), (tc, .inl (cI, K, .inl (fun _ => 0))), (ar, .inl (cI, K, .inl (fun _ => 0))), (ac, .inl (cI, K, .inl (fun _ => 0))), (av, .inl (cI, K, .inl (fun _ => 0))), (vx, .inl (cI, S, .inl (fun _ => 0))), (py, .inl (cI, S, .inl (fun _ => 0))), (li, .inl (cI, S, .inl (fun _ => 0)))] := hD
  refine W.widen (k := 14) (n := 7386) (by omega) (by omega) ?_
  refine va_putF (D := D) (ci := 1) (v := .ref li) (ty := .array .int) (C := RX1) (T := TX1) (N := 12) hx hb hts hin1 tyX1 tyX1_ok nmX1 hown hK hP hD hS 0 rfl rfl 11 (by decide) f59 (fun _ h9 => h9) rfl hin rfl (by decide +kernel) rfl rfl (Nat.le_of_ble_eq_true rfl) dX1_init_138 (fun H locs hP hD hS => ?_)
  have hP : va_P D vwCl [(o, .inr (1, [.int (nI K), .int (nI R), .int (nI C), .ref su, .ref sp, .ref ar, .ref ac, .ref av, .int (nI 0), .ref vx, .ref py, .ref li])), (su, .inr (0, [.ref sa, .ref sb, .ref sc])), (sa, .inl (cI, S + 1, .inl (fun _ => 0))), (sb, .inl (cI, K, .inl (fun _ => 0))), (sc, .inl (cI, K, .inl (fun _ => 0))), (sp, .inr (0, [.ref ta, .ref tb, .ref tc])), (ta, .inl (cI, S + 1, .inl (fun _ => 0))), (tb, .inl (cI, K, .inl (fun _ => 0))), (tc, .inl (cI, K, .inl (fun _ => 0))), (ar, .inl (cI, K, .inl (fun _ => 0))), (ac, .inl (cI, K, .inl (fun _ => 0))), (av, .inl (cI, K, .inl (fun _ => 0))), (vx, .inl (cI, S, .inl (fun _ => 0))), (py, .inl (cI, S, .inl (fun _ => 0))), (li, .inl (cI, S, .inl (fun _ => 0)))] H := hP
  have hD : va_D A [(o, .inr (1, [.int (nI K), .int (nI R), .int (nI C), .ref su, .ref sp, .ref ar, .ref ac, .ref av, .int (nI 0), .ref vx, .ref py, .ref li])), (su, .inr (0, [.ref sa, .ref sb, .ref sc])), (sa, .inl (cI, S + 1, .inl (fun _ => 0))), (sb, .inl (cI, K, .inl (fun _ => 0))), (sc, .inl (cI, K, .inl (fun _ => 0))), (sp, .inr (0, [.ref ta, .ref tb, .ref tc])), (ta, .inl (cI, S + 1, .inl (fun _ => 0))), (tb, .inl (cI, K, .inl (fun _ => 0))), (tc, .inl (cI, K, .inl (fun _ => 0))), (ar, .inl (cI, K, .inl (fun _ => 0))), (ac, .inl (cI, K, .inl (fun _ => 0))), (av, .inl (cI, K, .inl (fun _ => 0))), (vx, .inl (cI, S, .inl (fun _ => 0))), (py, .inl (cI, S, .inl (fun _ => 0))), (li, .inl (cI, S, .inl (fun _ => 0)))] := hD
  refine W.widen (k := 14) (n := 8000) (by omega) (by omega) ?_
  exact ret _ _ _ _ ((ar, ac, av, vx, py, li), ((su, sa, sb, sc), (sp, ta, tb, tc), ((fun _ => 0), (fun _ => 0), (fun _ => 0)), ((fun _ => 0), (fun _ => 0), (fun _ => 0)), ((fun _ => 0), (fun _ => 0), (fun _ => 0)), ((fun _ => 0), (fun _ => 0), (fun _ => 0)))) dX1_init_141 (hr0) (hP.sub [0, 1, 2, 3, 4, 5, 6, 7, 8, 9, 10, 11, 12, 13, 14] rfl) (hD.sub [0, 1, 2, 3, 4, 5, 6, 7, 8, 9, 10, 11, 12, 13, 14] (by decide) rfl) hS

set_option maxHeartbeats 4000000 in
set_option maxRecDepth 100000 in
theorem d_init (l : Launch) (D : va_G) (cI : ClassId) (o : Nat) (rows cols cap : Int32) : MetV l yX2_init wsX2_init rm_M D [(cI, .int)] [.ref o, .int rows, .int cols, .int cap] [(o, .inr (2, [.int 0, .int 0, .int 0, .int 0, .null, .null, .null, .null, .null]))] (fun x : (Nat × Nat × Nat) × st_M => st_rm (st_0 rows cols cap) x.2) (fun x : (Nat × Nat × Nat) × st_M => st_wM cI o x.1.1 x.1.2.1 x.1.2.2 (st_0 rows cols cap) x.2) 5 11000 := by
  refine rs_V (cc := cX2_init) (maxL := 4) (by decide) rfl (Nat.le_of_ble_eq_true rfl) ?_
  intro p e s m args below meth c Q A ls hx hb hml hown hts hin hP hK hD hS hA hl ret
  have f7 := hts (.fieldLink RX2 7 "RowSparseModel" "table" "[I") (by decide +kernel)
  have f13 := hts (.fieldLink RX2 13 "RowSparseModel" "other" "[I") (by decide +kernel)
  have f16 := hts (.fieldLink RX2 16 "RowSparseModel" "more" "[I") (by decide +kernel)
  have f19 := hts (.fieldLink RX2 19 "RowSparseModel" "x" "[I") (by decide +kernel)
  have f22 := hts (.fieldLink RX2 22 "RowSparseModel" "y" "[I") (by decide +kernel)
  have f29 := hts (.fieldLink RX2 29 "RowSparseModel" "rows" "I") (by decide +kernel)
  have f33 := hts (.fieldLink RX2 33 "RowSparseModel" "cols" "I") (by decide +kernel)
  have f36 := hts (.fieldLink RX2 36 "RowSparseModel" "cap" "I") (by decide +kernel)
  have hin2 : ∀ w ∈ u_ws RX2 TX2 9, w ∈ wsX2_init := by decide +kernel
  have hl : lv_has ls 4 [(0, .ref o), (1, .int rows), (2, .int cols), (3, .int cap)] := hl
  have hP : va_P D vwCl [(o, .inr (2, [.int 0, .int 0, .int 0, .int 0, .null, .null, .null, .null, .null]))] s.heap := hP
  have hD : va_D A [(o, .inr (2, [.int 0, .int 0, .int 0, .int 0, .null, .null, .null, .null, .null]))] := hD
  have harr := hts (.arrayClass .int) (by decide +kernel)
  have hr0 := st_rm0 rows cols cap
  obtain ⟨R, eR⟩ : ∃ z, z = ms_cl rows 60 := ⟨_, rfl⟩
  obtain ⟨C, eC⟩ : ∃ z, z = ms_cl cols 60 := ⟨_, rfl⟩
  obtain ⟨K, eK⟩ : ∃ z, z = ms_cl cap 1000 := ⟨_, rfl⟩
  obtain ⟨S, eS⟩ : ∃ z, z = max R C := ⟨_, rfl⟩
  have e0 : st_0 rows cols cap = ((K, R, C, S, 0), (fun _ _ => 0), (fun _ _ => 0), (fun _ => 0), fun _ => 0) := by rw [eS, eK, eC, eR]; rfl
  rw [e0] at ret
  rw [← eR, ← eC, ← eK, ← eS] at hr0
  refine lv_aload_n hx hb dX2_init_0 rfl (lv_at hl 0 rfl) ?_
  refine W.objInit hx hb hown (hts (.methodLink RX2 1 objectInit) (by decide +kernel)) (hts (.instanceMethod objectInit) (by decide +kernel)) (hts (.code objectInit ⟨#[0xb1]⟩ 1 none) (by decide +kernel)) rfl (by rw [hml]; exact hl.1) rfl dX2_init_1 (Nat.le_of_ble_eq_true rfl) (Nat.le_of_ble_eq_true rfl) ?_
  refine W.eq (g2 := F0 m 4 ls []) rfl ?_
  refine lv_aload_n hx hb dX2_init_4 rfl (lv_at hl 0 rfl) ?_
  refine lv_sipush (v := nI 3600) hx hb dX2_init_5 (by decide +kernel) ?_
  refine rs_newa (N := 3600) hx hb harr hK hP hD hS hA (by omega) (show 0 + 1 ≤ 5 by omega) (show 0 + 3600 ≤ 11000 by omega) dX2_init_8 (fun ta H hP hD hS => ?_)
  have hP : va_P D vwCl [(o, .inr (2, [.int 0, .int 0, .int 0, .int 0, .null, .null, .null, .null, .null])), (ta, .inl (cI, 3600, .inl (fun _ => 0)))] H := hP
  have hD : va_D A [(o, .inr (2, [.int 0, .int 0, .int 0, .int 0, .null, .null, .null, .null, .null])), (ta, .inl (cI, 3600, .inl (fun _ => 0)))] := hD
  refine W.widen (k := 1) (n := 3600) (by omega) (by omega) ?_
  refine va_put (D := D) (ci := 2) (v := .ref ta) (ty := .array .int) (C := RX2) (T := TX2) (N := 9) hx hb hts hin2 tyX2 tyX2_ok nmX2 hown hK hP hD hS 0 rfl rfl 4 (by decide) f7 (fun _ h9 => h9) rfl (by decide +kernel) rfl rfl (Nat.le_of_ble_eq_true rfl) dX2_init_10 (fun H locs hP hD hS => ?_)
  have hP : va_P D vwCl [(o, .inr (2, [.int 0, .int 0, .int 0, .int 0, .ref ta, .null, .null, .null, .null])), (ta, .inl (cI, 3600, .inl (fun _ => 0)))] H := hP
  have hD : va_D A [(o, .inr (2, [.int 0, .int 0, .int 0, .int 0, .ref ta, .null, .null, .null, .null])), (ta, .inl (cI, 3600, .inl (fun _ => 0)))] := hD
  refine lv_aload_n hx hb dX2_init_13 rfl (lv_at hl 0 rfl) ?_
  refine lv_sipush (v := nI 3600) hx hb dX2_init_14 (by decide +kernel) ?_
  refine rs_newa (N := 3600) hx hb harr hK hP hD hS hA (by omega) (show 1 + 1 ≤ 5 by omega) (show 3600 + 3600 ≤ 11000 by omega) dX2_init_17 (fun ot H hP hD hS => ?_)
  have hP : va_P D vwCl [(o, .inr (2, [.int 0, .int 0, .int 0, .int 0, .ref ta, .null, .null, .null, .null])), (ta, .inl (cI, 3600, .inl (fun _ => 0))), (ot, .inl (cI, 3600, .inl (fun _ => 0)))] H := hP
  have hD : va_D A [(o, .inr (2, [.int 0, .int 0, .int 0, .int 0, .ref ta, .null, .null, .null, .null])), (ta, .inl (cI, 3600, .inl (fun _ => 0))), (ot, .inl (cI, 3600, .inl (fun _ => 0)))] := hD
  refine W.widen (k := 2) (n := 7200) (by omega) (by omega) ?_
  refine va_put (D := D) (ci := 2) (v := .ref ot) (ty := .array .int) (C := RX2) (T := TX2) (N := 9) hx hb hts hin2 tyX2 tyX2_ok nmX2 hown hK hP hD hS 0 rfl rfl 5 (by decide) f13 (fun _ h9 => h9) rfl (by decide +kernel) rfl rfl (Nat.le_of_ble_eq_true rfl) dX2_init_19 (fun H locs hP hD hS => ?_)
  have hP : va_P D vwCl [(o, .inr (2, [.int 0, .int 0, .int 0, .int 0, .ref ta, .ref ot, .null, .null, .null])), (ta, .inl (cI, 3600, .inl (fun _ => 0))), (ot, .inl (cI, 3600, .inl (fun _ => 0)))] H := hP
  have hD : va_D A [(o, .inr (2, [.int 0, .int 0, .int 0, .int 0, .ref ta, .ref ot, .null, .null, .null])), (ta, .inl (cI, 3600, .inl (fun _ => 0))), (ot, .inl (cI, 3600, .inl (fun _ => 0)))] := hD
  refine lv_aload_n hx hb dX2_init_22 rfl (lv_at hl 0 rfl) ?_
  refine lv_sipush (v := nI 3600) hx hb dX2_init_23 (by decide +kernel) ?_
  refine rs_newa (N := 3600) hx hb harr hK hP hD hS hA (by omega) (show 2 + 1 ≤ 5 by omega) (show 7200 + 3600 ≤ 11000 by omega) dX2_init_26 (fun mo H hP hD hS => ?_)
  have hP : va_P D vwCl [(o, .inr (2, [.int 0, .int 0, .int 0, .int 0, .ref ta, .ref ot, .null, .null, .null])), (ta, .inl (cI, 3600, .inl (fun _ => 0))), (ot, .inl (cI, 3600, .inl (fun _ => 0))), (mo, .inl (cI, 3600, .inl (fun _ => 0)))] H := hP
  have hD : va_D A [(o, .inr (2, [.int 0, .int 0, .int 0, .int 0, .ref ta, .ref ot, .null, .null, .null])), (ta, .inl (cI, 3600, .inl (fun _ => 0))), (ot, .inl (cI, 3600, .inl (fun _ => 0))), (mo, .inl (cI, 3600, .inl (fun _ => 0)))] := hD
  refine W.widen (k := 3) (n := 10800) (by omega) (by omega) ?_
  refine va_putF (D := D) (ci := 2) (v := .ref mo) (ty := .array .int) (C := RX2) (T := TX2) (N := 9) hx hb hts hin2 tyX2 tyX2_ok nmX2 hown hK hP hD hS 0 rfl rfl 6 (by decide) f16 (fun _ h9 => h9) rfl hin rfl (by decide +kernel) rfl rfl (Nat.le_of_ble_eq_true rfl) dX2_init_28 (fun H locs hP hD hS => ?_)
  have hP : va_P D vwCl [(o, .inr (2, [.int 0, .int 0, .int 0, .int 0, .ref ta, .ref ot, .ref mo, .null, .null])), (ta, .inl (cI, 3600, .inl (fun _ => 0))), (ot, .inl (cI, 3600, .inl (fun _ => 0))), (mo, .inl (cI, 3600, .inl (fun _ => 0)))] H := hP
  have hD : va_D A [(o, .inr (2, [.int 0, .int 0, .int 0, .int 0, .ref ta, .ref ot, .ref mo, .null, .null])), (ta, .inl (cI, 3600, .inl (fun _ => 0))), (ot, .inl (cI, 3600, .inl (fun _ => 0))), (mo, .inl (cI, 3600, .inl (fun _ => 0)))] := hD
  refine lv_aload_n hx hb dX2_init_31 rfl (lv_at hl 0 rfl) ?_
  refine lv_bipush (v := nI 60) hx hb dX2_init_32 (by decide +kernel) ?_
  refine rs_newa (N := 60) hx hb harr hK hP hD hS hA (by omega) (show 3 + 1 ≤ 5 by omega) (show 10800 + 60 ≤ 11000 by omega) dX2_init_34 (fun xx H hP hD hS => ?_)
  have hP : va_P D vwCl [(o, .inr (2, [.int 0, .int 0, .int 0, .int 0, .ref ta, .ref ot, .ref mo, .null, .null])), (ta, .inl (cI, 3600, .inl (fun _ => 0))), (ot, .inl (cI, 3600, .inl (fun _ => 0))), (mo, .inl (cI, 3600, .inl (fun _ => 0))), (xx, .inl (cI, 60, .inl (fun _ => 0)))] H := hP
  have hD : va_D A [(o, .inr (2, [.int 0, .int 0, .int 0, .int 0, .ref ta, .ref ot, .ref mo, .null, .null])), (ta, .inl (cI, 3600, .inl (fun _ => 0))), (ot, .inl (cI, 3600, .inl (fun _ => 0))), (mo, .inl (cI, 3600, .inl (fun _ => 0))), (xx, .inl (cI, 60, .inl (fun _ => 0)))] := hD
  refine W.widen (k := 4) (n := 10860) (by omega) (by omega) ?_
  refine va_putF (D := D) (ci := 2) (v := .ref xx) (ty := .array .int) (C := RX2) (T := TX2) (N := 9) hx hb hts hin2 tyX2 tyX2_ok nmX2 hown hK hP hD hS 0 rfl rfl 7 (by decide) f19 (fun _ h9 => h9) rfl hin rfl (by decide +kernel) rfl rfl (Nat.le_of_ble_eq_true rfl) dX2_init_36 (fun H locs hP hD hS => ?_)
  have hP : va_P D vwCl [(o, .inr (2, [.int 0, .int 0, .int 0, .int 0, .ref ta, .ref ot, .ref mo, .ref xx, .null])), (ta, .inl (cI, 3600, .inl (fun _ => 0))), (ot, .inl (cI, 3600, .inl (fun _ => 0))), (mo, .inl (cI, 3600, .inl (fun _ => 0))), (xx, .inl (cI, 60, .inl (fun _ => 0)))] H := hP
  have hD : va_D A [(o, .inr (2, [.int 0, .int 0, .int 0, .int 0, .ref ta, .ref ot, .ref mo, .ref xx, .null])), (ta, .inl (cI, 3600, .inl (fun _ => 0))), (ot, .inl (cI, 3600, .inl (fun _ => 0))), (mo, .inl (cI, 3600, .inl (fun _ => 0))), (xx, .inl (cI, 60, .inl (fun _ => 0)))] := hD
  refine lv_aload_n hx hb dX2_init_39 rfl (lv_at hl 0 rfl) ?_
  refine lv_bipush (v := nI 60) hx hb dX2_init_40 (by decide +kernel) ?_
  refine rs_newa (N := 60) hx hb harr hK hP hD hS hA (by omega) (show 4 + 1 ≤ 5 by omega) (show 10860 + 60 ≤ 11000 by omega) dX2_init_42 (fun yy H hP hD hS => ?_)
  have hP : va_P D vwCl [(o, .inr (2, [.int 0, .int 0, .int 0, .int 0, .ref ta, .ref ot, .ref mo, .ref xx, .null])), (ta, .inl (cI, 3600, .inl (fun _ => 0))), (ot, .inl (cI, 3600, .inl (fun _ => 0))), (mo, .inl (cI, 3600, .inl (fun _ => 0))), (xx, .inl (cI, 60, .inl (fun _ => 0))), (yy, .inl (cI, 60, .inl (fun _ => 0)))] H := hP
  have hD : va_D A [(o, .inr (2, [.int 0, .int 0, .int 0, .int 0, .ref ta, .ref ot, .ref mo, .ref xx, .null])), (ta, .inl (cI, 3600, .inl (fun _ => 0))), (ot, .inl (cI, 3600, .inl (fun _ => 0))), (mo, .inl (cI, 3600, .inl (fun _ => 0))), (xx, .inl (cI, 60, .inl (fun _ => 0))), (yy, .inl (cI, 60, .inl (fun _ => 0)))] := hD
  refine W.widen (k := 5) (n := 10920) (by omega) (by omega) ?_
  refine va_putF (D := D) (ci := 2) (v := .ref yy) (ty := .array .int) (C := RX2) (T := TX2) (N := 9) hx hb hts hin2 tyX2 tyX2_ok nmX2 hown hK hP hD hS 0 rfl rfl 8 (by decide) f22 (fun _ h9 => h9) rfl hin rfl (by decide +kernel) rfl rfl (Nat.le_of_ble_eq_true rfl) dX2_init_44 (fun H locs hP hD hS => ?_)
  have hP : va_P D vwCl [(o, .inr (2, [.int 0, .int 0, .int 0, .int 0, .ref ta, .ref ot, .ref mo, .ref xx, .ref yy])), (ta, .inl (cI, 3600, .inl (fun _ => 0))), (ot, .inl (cI, 3600, .inl (fun _ => 0))), (mo, .inl (cI, 3600, .inl (fun _ => 0))), (xx, .inl (cI, 60, .inl (fun _ => 0))), (yy, .inl (cI, 60, .inl (fun _ => 0)))] H := hP
  have hD : va_D A [(o, .inr (2, [.int 0, .int 0, .int 0, .int 0, .ref ta, .ref ot, .ref mo, .ref xx, .ref yy])), (ta, .inl (cI, 3600, .inl (fun _ => 0))), (ot, .inl (cI, 3600, .inl (fun _ => 0))), (mo, .inl (cI, 3600, .inl (fun _ => 0))), (xx, .inl (cI, 60, .inl (fun _ => 0))), (yy, .inl (cI, 60, .inl (fun _ => 0)))] := hD
  refine lv_aload_n hx hb dX2_init_47 rfl (lv_at hl 0 rfl) ?_
  refine lv_iload_n hx hb dX2_init_48 rfl (lv_at hl 1 rfl) ?_
  refine lv_bipush (v := nI 60) hx hb dX2_init_49 (by decide +kernel) ?_
  refine rs_cRS (As := [.int rows, .int (nI 60)]) (rest := [.ref o]) ⟨hx, hb, hml, hown, hts⟩ hl.1 (c_within l D cI rows 60 (by omega)) (va_cwS 2 hts gX2_init_X2_within rfl rfl rfl (by decide +kernel) ⟨Nat.le_of_ble_eq_true rfl, Nat.le_of_ble_eq_true rfl⟩) hK hP [] rfl rfl rfl (Nat.le_of_ble_eq_true rfl) dX2_init_51 (Nat.le_of_ble_eq_true rfl) (Nat.le_of_ble_eq_true rfl) (fun r hv => ?_)
  rw [← eR] at hv
  subst hv
  refine va_put (D := D) (ci := 2) (v := .int (nI R)) (ty := .int) (C := RX2) (T := TX2) (N := 9) hx hb hts hin2 tyX2 tyX2_ok nmX2 hown hK hP hD hS 0 rfl rfl 1 (by decide) f29 (fun _ h9 => h9) rfl (by decide +kernel) rfl rfl (Nat.le_of_ble_eq_true rfl) dX2_init_54 (fun H locs hP hD hS => ?_)
  have hP : va_P D vwCl [(o, .inr (2, [.int 0, .int (nI R), .int 0, .int 0, .ref ta, .ref ot, .ref mo, .ref xx, .ref yy])), (ta, .inl (cI, 3600, .inl (fun _ => 0))), (ot, .inl (cI, 3600, .inl (fun _ => 0))), (mo, .inl (cI, 3600, .inl (fun _ => 0))), (xx, .inl (cI, 60, .inl (fun _ => 0))), (yy, .inl (cI, 60, .inl (fun _ => 0)))] H := hP
  have hD : va_D A [(o, .inr (2, [.int 0, .int (nI R), .int 0, .int 0, .ref ta, .ref ot, .ref mo, .ref xx, .ref yy])), (ta, .inl (cI, 3600, .inl (fun _ => 0))), (ot, .inl (cI, 3600, .inl (fun _ => 0))), (mo, .inl (cI, 3600, .inl (fun _ => 0))), (xx, .inl (cI, 60, .inl (fun _ => 0))), (yy, .inl (cI, 60, .inl (fun _ => 0)))] := hD
  refine lv_aload_n hx hb dX2_init_57 rfl (lv_at hl 0 rfl) ?_
  refine lv_iload_n hx hb dX2_init_58 rfl (lv_at hl 2 rfl) ?_
  refine lv_bipush (v := nI 60) hx hb dX2_init_59 (by decide +kernel) ?_
  refine rs_cRS (As := [.int cols, .int (nI 60)]) (rest := [.ref o]) ⟨hx, hb, hml, hown, hts⟩ hl.1 (c_within l D cI cols 60 (by omega)) (va_cwS 2 hts gX2_init_X2_within rfl rfl rfl (by decide +kernel) ⟨Nat.le_of_ble_eq_true rfl, Nat.le_of_ble_eq_true rfl⟩) hK hP [] rfl rfl rfl (Nat.le_of_ble_eq_true rfl) dX2_init_61 (Nat.le_of_ble_eq_true rfl) (Nat.le_of_ble_eq_true rfl) (fun r hv => ?_)
  rw [← eC] at hv
  subst hv
  refine va_put (D := D) (ci := 2) (v := .int (nI C)) (ty := .int) (C := RX2) (T := TX2) (N := 9) hx hb hts hin2 tyX2 tyX2_ok nmX2 hown hK hP hD hS 0 rfl rfl 2 (by decide) f33 (fun _ h9 => h9) rfl (by decide +kernel) rfl rfl (Nat.le_of_ble_eq_true rfl) dX2_init_64 (fun H locs hP hD hS => ?_)
  have hP : va_P D vwCl [(o, .inr (2, [.int 0, .int (nI R), .int (nI C), .int 0, .ref ta, .ref ot, .ref mo, .ref xx, .ref yy])), (ta, .inl (cI, 3600, .inl (fun _ => 0))), (ot, .inl (cI, 3600, .inl (fun _ => 0))), (mo, .inl (cI, 3600, .inl (fun _ => 0))), (xx, .inl (cI, 60, .inl (fun _ => 0))), (yy, .inl (cI, 60, .inl (fun _ => 0)))] H := hP
  have hD : va_D A [(o, .inr (2, [.int 0, .int (nI R), .int (nI C), .int 0, .ref ta, .ref ot, .ref mo, .ref xx, .ref yy])), (ta, .inl (cI, 3600, .inl (fun _ => 0))), (ot, .inl (cI, 3600, .inl (fun _ => 0))), (mo, .inl (cI, 3600, .inl (fun _ => 0))), (xx, .inl (cI, 60, .inl (fun _ => 0))), (yy, .inl (cI, 60, .inl (fun _ => 0)))] := hD
  refine lv_aload_n hx hb dX2_init_67 rfl (lv_at hl 0 rfl) ?_
  refine lv_iload_n hx hb dX2_init_68 rfl (lv_at hl 3 rfl) ?_
  refine lv_sipush (v := nI 1000) hx hb dX2_init_69 (by decide +kernel) ?_
  refine rs_cRS (As := [.int cap, .int (nI 1000)]) (rest := [.ref o]) ⟨hx, hb, hml, hown, hts⟩ hl.1 (c_within l D cI cap 1000 (by omega)) (va_cwS 2 hts gX2_init_X2_within rfl rfl rfl (by decide +kernel) ⟨Nat.le_of_ble_eq_true rfl, Nat.le_of_ble_eq_true rfl⟩) hK hP [] rfl rfl rfl (Nat.le_of_ble_eq_true rfl) dX2_init_72 (Nat.le_of_ble_eq_true rfl) (Nat.le_of_ble_eq_true rfl) (fun r hv => ?_)
  rw [← eK] at hv
  subst hv
  refine va_putF (D := D) (ci := 2) (v := .int (nI K)) (ty := .int) (C := RX2) (T := TX2) (N := 9) hx hb hts hin2 tyX2 tyX2_ok nmX2 hown hK hP hD hS 0 rfl rfl 0 (by decide) f36 (fun _ h9 => h9) rfl hin rfl (by decide +kernel) rfl rfl (Nat.le_of_ble_eq_true rfl) dX2_init_75 (fun H locs hP hD hS => ?_)
  have hP : va_P D vwCl [(o, .inr (2, [.int (nI K), .int (nI R), .int (nI C), .int 0, .ref ta, .ref ot, .ref mo, .ref xx, .ref yy])), (ta, .inl (cI, 3600, .inl (fun _ => 0))), (ot, .inl (cI, 3600, .inl (fun _ => 0))), (mo, .inl (cI, 3600, .inl (fun _ => 0))), (xx, .inl (cI, 60, .inl (fun _ => 0))), (yy, .inl (cI, 60, .inl (fun _ => 0)))] H := hP
  have hD : va_D A [(o, .inr (2, [.int (nI K), .int (nI R), .int (nI C), .int 0, .ref ta, .ref ot, .ref mo, .ref xx, .ref yy])), (ta, .inl (cI, 3600, .inl (fun _ => 0))), (ot, .inl (cI, 3600, .inl (fun _ => 0))), (mo, .inl (cI, 3600, .inl (fun _ => 0))), (xx, .inl (cI, 60, .inl (fun _ => 0))), (yy, .inl (cI, 60, .inl (fun _ => 0)))] := hD
  refine W.widen (k := 5) (n := 11000) (by omega) (by omega) ?_
  exact ret _ _ _ _ ((mo, xx, yy), ((ta, ot), (fun _ => 0), (fun _ => 0), ((fun _ => 0), (fun _ => 0), (fun _ => 0)))) dX2_init_78 (hr0) (hP.sub [0, 1, 2, 3, 4, 5] rfl) (hD.sub [0, 1, 2, 3, 4, 5] (by decide) rfl) hS
end
section
/-! THE CLAIM OUT OF ONE WALK OF THE LAW'S BODY. Your part is whole_start (and what it stands on); all else here is the same for every law, but numbers. -/
def R_law : String := "RowSparseLaw"
def lw_P (b : Addr) (xs : List Int32) (args : Array Value) (s : State) : Prop := args = #[.ref b] ∧ s.IntsAt b xs ∧ xs.length ≤ 2051 ∧ (Jvm.Cond.and given_1 narrow_1).before args s = true
def lw_Q (_ : Array Value) (s : State) (o : Outcome) (t : State) : Prop := o = .returned (some (.int 1)) ∧ Framed s o t [] 600000 7302250
def lw_Z (below : List Frame) (a : Array Value) (s : State) : State → Prop := fun t => ∃ o, t.status = .running ∧ Ended t below o ∧ lw_Q a s o t
/-- the law's own end, with 1 on the stack, nothing written that was there before, its room as the claim has it -/
theorem lw_ret {p : Program} {l : Launch} {e : Env} {s : State} {m : MethodId} {below : List Frame} {meth : Method} {c : Code} {b : Nat} (hx : p.tables.exec = Jvm.exec) (hb : c.code = code) (hr : meth.sig.returnType = ret) (hlocks : meth.locks = false) {pc : Nat} {H : Heap} {ls : Array Slot} (hdg : decode code pc = .ok (.ireturn, 1)) : W p l e room_1 s m #[Value.ref b] below meth c H [] 600000 7302250 (lw_Z below #[Value.ref b] s) (F0 m pc ls [.int 1]) := by
  intro T hT X
  obtain ⟨fs, hret, hrun, hended, hW, hframe⟩ := X.leave (v := some (.int 1)) (hlocks := hlocks) (fun h => by rw [hr] at h; cases h)
  have hmeth' : T.vm.method? m = some meth := X.method'
  refine ⟨T.setFrames fs, ?_, .returned (some (.int 1)), hrun, hended, rfl, ⟨_, rfl⟩, hW, hframe⟩
  jvm_step X.here [X.here.top, hx, hb, hdg, hmeth', hr, ret, narrow_b1]
  (try refine ⟨rfl, ?_⟩); (try refine ⟨rfl, ?_⟩)
  first | (intro acts; rw [hret _ acts rfl rfl rfl]) | rw [hret _ _ rfl rfl rfl]
  exact Steps.refl _
/-- what holds at the law's entry: the machine, the code, the tables' words (any of lw_tbl by 'hts w (by decide +kernel)'), the script of L ints xs at the cell b, what the Statement gives of the start (any of its parts by flat_of_before) -/
def lw_At (p : Program) (s : State) (m : MethodId) (meth : Method) (c : Code) (b L : Nat) (xs : Nat → Int32) : Prop :=
  p.tables.exec = Jvm.exec ∧ c.code = code ∧ meth.sig.returnType = ret ∧ c.maxLocals = 4 ∧ s.vm.findClass R_law = some m.cls ∧ (∀ w ∈ lw_tbl, w.before #[Value.ref b] s = true) ∧ va_X b L xs s s.heap ∧ b < s.heap.size ∧ meth.locks = false ∧ (Jvm.Cond.and given_1 narrow_1).before #[Value.ref b] s = true
end
section
section LWA
variable {p : Program} {l : Launch} {e : Env} {R : Room} {s : State} {m : MethodId} {args : Array Value} {below : List Frame} {meth : Method} {c : Code} {H : Heap} {locs : List Loc} {cells slots : Nat} {Q : State → Prop}
variable {cc : ByteArray} {pc : Nat} {ls : Array Slot} {rest : List Value} {D : va_G} {tys : List (ClassId × FieldType)} {A : Nat → Prop}
variable {nL maxL index n : Nat} {Ts wsY : List Cond} {own C : String} {y : MethodName} {bytes : ByteArray} {ret : Option FieldType} {rm : Room} {As st : List Value} {b : Addr} {WC WR : va_W} {ci : Nat} {T : u_T} {N : Nat} {mc ms : Nat}
theorem rs_apart (hD : va_D A (WC ++ WR)) {i j : Nat} {x q : Nat × va_E} (h1 : WC[i]? = some x) (h2 : WR[j]? = some q) : x.1 ≠ q.1 := by
  intro h
  have hl : i < WC.length := (List.getElem?_eq_some_iff.mp h1).1
  have e1 : (WC ++ WR)[i]? = some x := by rw [List.getElem?_append_left hl]; exact h1
  have e2 : (WC ++ WR)[WC.length + j]? = some q := by rw [List.getElem?_append_right (by omega), show WC.length + j - WC.length = j by omega]; exact h2
  have := hD.1 i (WC.length + j) x q e1 e2 h
  omega
theorem rs_left (hD : va_D A (WC ++ WR)) : va_D A WC := by
  refine ⟨fun i j x y h1 h2 h => ?_, fun k q h => ?_⟩
  · have l1 : i < WC.length := (List.getElem?_eq_some_iff.mp h1).1
    have l2 : j < WC.length := (List.getElem?_eq_some_iff.mp h2).1
    exact hD.1 i j x y (by rw [List.getElem?_append_left l1]; exact h1) (by rw [List.getElem?_append_left l2]; exact h2) h
  · have l1 : k < WC.length := (List.getElem?_eq_some_iff.mp h).1
    exact hD.2 k q (by rw [List.getElem?_append_left l1]; exact h)
theorem rs_swap (hD : va_D A (WC ++ WR)) : va_D A (WR ++ WC) := va_D.swap (a := []) hD
theorem rs_joinL {w1 : va_W} {H1 : Heap} (hPR : va_P D vwCl WR H) (hD : va_D A (WC ++ WR)) (hk : ∀ q : Nat, q < H.size → ¬ va_A WC H.size q → H1[q]? = H[q]?) (hF : ∀ q, va_A WC H.size q → A q) (hD1 : va_D (va_A WC H.size) w1) : va_P D vwCl WR H1 ∧ va_D A (w1 ++ WR) := by
  have key : ∀ (k : Nat) (q : Nat × va_E), WR[k]? = some q → ¬ va_A WC H.size q.1 := by
    intro k q hq h
    rcases h with ⟨i, e, hi⟩ | h
    · exact rs_apart hD hi hq rfl
    · have := (hPR k q hq).lt
      omega
  refine ⟨hPR.kept (fun k q hq => hk q.1 (hPR k q hq).lt (key k q hq)), ?_⟩
  refine va_D.app (hD1.weaken (fun k q _ h => hF _ h)) (rs_left (rs_swap hD)) (fun i j x q h1 h2 h => ?_)
  exact key j q h2 (h ▸ hD1.2 i x h1)
/-- a read-only call, the callee's world beside another one -/
theorem rs_LR {post : Int32 → Prop} (S : CallFix p m c cc nL s args Ts own) (hsz : ls.size = nL) (hM : MetR l y wsY rm D tys (.ref b :: As) WC post) (cw : CallW R s args own C index y bytes maxL ret wsY rm 0 0 n) (hK : va_K D vwCl tys s) (hP : va_P D vwCl WC H) (hc : vwCl[ci]? = some (C, T, N)) (he : ∃ fs, WC[0]? = some (b, .inr (ci, fs))) (hn : As.length = n) (hst : st = As.reverse ++ .ref b :: rest) (hW : (rest.map fun v => v.category).sum ≤ 8) (hdg : decode cc pc = .ok (.invokevirtual index, 3)) (hcl : cells ≤ R.cells) (hsl : slots ≤ R.slots)
    (kk : ∀ r : Int32, post r → W p l e R s m args below meth c H locs cells slots Q (F0 m (pc + 3) ls (.int r :: rest))) : W p l e R s m args below meth c H locs cells slots Q (F0 m pc ls st) := by
  subst hst
  obtain ⟨fs, he⟩ := he
  exact vp_callSi (W.runV S hM cw ⟨rs_blR, va_recv hK hP hc he, fun U hU hW => ⟨rfl, by rw [hU]; exact hP, va_K.moved hW.alike hK⟩⟩ rfl hn hsz rfl (lv_room hW) hdg ⟨hcl, hsl⟩) kk
/-- a call that may write, the callee's world beside another one -/
theorem rs_LI {S : Type} {post : Int32 → S → Prop} {w1 : S → va_W} (F : CallFix p m c cc nL s args Ts own) (hsz : ls.size = nL) (hM : MetI l y wsY rm D tys (.ref b :: As) WC post w1 mc ms) (cw : CallW R s args own C index y bytes maxL ret wsY rm mc ms n) (hK : va_K D vwCl tys s) (hP : va_P D vwCl WC H) (hPR : va_P D vwCl WR H) (hD : va_D A (WC ++ WR)) (hS : va_S A s.heap H locs) (hA : ∀ q, s.heap.size ≤ q → A q) (hc : vwCl[ci]? = some (C, T, N)) (he : ∃ fs, WC[0]? = some (b, .inr (ci, fs))) (hn : As.length = n) (hst : st = As.reverse ++ .ref b :: rest) (hW : (rest.map fun v => v.category).sum ≤ 8) (hdg : decode cc pc = .ok (.invokevirtual index, 3)) (hcl : cells + mc ≤ R.cells) (hsl : slots + ms ≤ R.slots)
    (kk : ∀ (r : Int32) (u : S) (H1 : Heap) (locs1 : List Loc), post r u → va_P D vwCl (w1 u) H1 → va_P D vwCl WR H1 → va_D A (w1 u ++ WR) → va_S A s.heap H1 locs1 → W p l e R s m args below meth c H1 locs1 (cells + mc) (slots + ms) Q (F0 m (pc + 3) ls (.int r :: rest))) : W p l e R s m args below meth c H locs cells slots Q (F0 m pc ls st) := by
  subst hst
  obtain ⟨fs, he⟩ := he
  have hDc := rs_left hD
  have hFc : ∀ q, va_A WC H.size q → A q := fun q h => by
    rcases h with ⟨k, e, hk⟩ | h
    · exact hDc.2 k _ hk
    · exact hA q (Nat.le_trans hS.1 h)
  refine va_calli (va_runV F (hM H.size) cw ⟨rs_blI, va_recv hK hP hc he, fun U hU hW => ⟨rfl, by rw [hU], by rw [hU]; exact hP, va_K.moved hW.alike hK, hDc.weaken (fun _ _ _ _ => trivial)⟩⟩ rfl hn hsz rfl (lv_room hW) hdg ⟨hcl, hsl⟩) hS (fun q _ h => hFc q h) hFc (fun r u t H1 locs1 ht hvm hw hB hz1 hk1 hS1 => ?_)
  obtain ⟨hP1, hK1, hD1⟩ := hB
  rw [ht] at hP1
  obtain ⟨hP2, hD2⟩ := rs_joinL hPR hD hk1 hFc hD1
  exact kk r u H1 locs1 hw hP1 hP2 hD2 hS1
/-- a constructor, the same -/
theorem rs_LN {S : Type} {post : S → Prop} {w1 : S → va_W} (F : CallFix p m c cc nL s args Ts own) (hsz : ls.size = nL) (hM : MetV l y wsY rm D tys (.ref b :: As) WC post w1 mc ms) (cw : CallB R s args own index y bytes maxL none wsY rm mc ms n ∧ y.name = "<init>" ∧ (Cond.instanceMethod y).before args s = true) (hK : va_K D vwCl tys s) (hP : va_P D vwCl WC H) (hPR : va_P D vwCl WR H) (hD : va_D A (WC ++ WR)) (hS : va_S A s.heap H locs) (hA : ∀ q, s.heap.size ≤ q → A q) (hn : As.length = n) (hst : st = As.reverse ++ .ref b :: rest) (hW : (rest.map fun v => v.category).sum ≤ 8) (hdg : decode cc pc = .ok (.invokespecial index, 3)) (hcl : cells + mc ≤ R.cells) (hsl : slots + ms ≤ R.slots)
    (kk : ∀ (u : S) (H1 : Heap) (locs1 : List Loc), post u → va_P D vwCl (w1 u) H1 → va_P D vwCl WR H1 → va_D A (w1 u ++ WR) → va_S A s.heap H1 locs1 → W p l e R s m args below meth c H1 locs1 (cells + mc) (slots + ms) Q (F0 m (pc + 3) ls rest)) : W p l e R s m args below meth c H locs cells slots Q (F0 m pc ls st) := by
  subst hst
  have hDc := rs_left hD
  have hFc : ∀ q, va_A WC H.size q → A q := fun q h => by
    rcases h with ⟨k, e, hk⟩ | h
    · exact hDc.2 k _ hk
    · exact hA q (Nat.le_trans hS.1 h)
  refine va_callv (va_runI F (hM H.size) cw ⟨rs_blI, fun U hU hW => ⟨rfl, by rw [hU], by rw [hU]; exact hP, va_K.moved hW.alike hK, hDc.weaken (fun _ _ _ _ => trivial)⟩⟩ rfl hn hsz rfl (lv_room hW) hdg ⟨hcl, hsl⟩) hS (fun q _ h => hFc q h) hFc (fun u t H1 locs1 ht hvm hw hB hz1 hk1 hS1 => ?_)
  obtain ⟨hP1, hK1, hD1⟩ := hB
  rw [ht] at hP1
  obtain ⟨hP2, hD2⟩ := rs_joinL hPR hD hk1 hFc hD1
  exact kk u H1 locs1 hw hP1 hP2 hD2 hS1
theorem rs_sld {L : Nat} {xs : Nat → Int32} (hx : p.tables.exec = Jvm.exec) (hb : c.code = cc) (hX : va_X b L xs s s.heap) (hbl : b < s.heap.size) (hbA : ¬ A b) (hS : va_S A s.heap H locs) {j : Nat} (hj : j < L) (hL : L < 2 ^ 31) (hdg : decode cc pc = .ok (.iaload, 1)) (kk : W p l e R s m args below meth c H locs cells slots Q (F0 m (pc + 1) ls (.int (xs j) :: rest))) : W p l e R s m args below meth c H locs cells slots Q (F0 m pc ls (.int (nI j) :: .ref b :: rest)) :=
  va_sld hx hb hX hbl hbA hS (vp_in_nI hj hL) hdg (by rw [nI_clamp (Nat.lt_trans hj hL)]; exact kk)
theorem rv_iceq_t (hx : p.tables.exec = Jvm.exec) (hb : c.code = cc) {x y : Int32} {off : Int} {tgt : Nat} (hdg : decode cc pc = .ok (.if_icmp .eq off, 3)) (ht : (pc : Int) + off = (tgt : Int)) (h : x = y) (kt : W p l e R s m args below meth c H locs cells slots Q (F0 m tgt ls rest)) : W p l e R s m args below meth c H locs cells slots Q (F0 m pc ls (.int y :: .int x :: rest)) := lv_icmp_eq hx hb hdg ht (fun _ => kt) (fun q => absurd h q)
end LWA
def lw_ce (xs : Nat → Int32) (L k : Nat) : Int32 := if k < L then xs k else 0
set_option maxHeartbeats 4000000 in
set_option maxRecDepth 100000 in
/-- cell(s, k): the k-th int of the script, 0 behind its end -/
theorem c_cell (l : Launch) (b L k : Nat) (xs : Nat → Int32) (hL : L < 2 ^ 31) (hk : k < 2 ^ 31) : Met l yL_cell wsL_cell rm_0 (va_Pc [.ref b, .int (nI k)] (fun U => va_X b L xs U U.heap)) (vp_Si (fun r => r = lw_ce xs L k)) 0 0 (fun _ => False) := by
  refine Met.ofW (cc := cL_cell) (maxL := 2) (ret := some .int) (by decide) rfl ?_
  intro p e s m args below meth c s₁ B hml hv
  obtain ⟨rfl, hX⟩ := hv
  have hx := B.exec
  have hb := B.bytes
  have hr := B.returns
  have hlocks := B.notSynchronized
  have hbl : b < s.heap.size := by
    obtain ⟨scr, h1, -⟩ := hX
    exact (Array.getElem?_eq_some_iff.mp h1).1
  have hS : va_S (fun _ => False) s.heap s.heap [] := va_S.rf
  have hl := lv_entry [.ref b, .int (nI k)] (n := 2) (Nat.le_of_ble_eq_true rfl)
  rw [lg_entry_eq]
  generalize (lg_sl [.ref b, .int (nI k)] ++ List.replicate (2 - (lg_sl [.ref b, .int (nI k)]).length) Slot.unset).toArray = ls at hl ⊢
  have hl : lv_has ls 2 [(0, .ref b), (1, .int (nI k))] := hl
  refine lv_iload_n hx hb dL_cell_0 rfl (lv_at hl 1 rfl) ?_
  refine lv_aload_n hx hb dL_cell_1 rfl (lv_at hl 0 rfl) ?_
  refine va_slen hx hb hX hbl (fun q => q) hS dL_cell_2 ?_
  refine rv_ge (b := L) (tgt := 12) hx hb dL_cell_3 (by decide) hk hL (fun h1 => ?_) (fun h1 => ?_)
  · refine lv_iconst (v := nI 0) hx hb dL_cell_12 (by decide +kernel) ?_
    exact W.iret hx hb hr (fun t ht hW => ⟨_, rfl, by rw [lw_ce, if_neg (by omega)]; exact ms_nz, ht⟩) (fun q hq => absurd hq List.not_mem_nil) dL_cell_13
  · refine lv_aload_n hx hb dL_cell_6 rfl (lv_at hl 0 rfl) ?_
    refine lv_iload_n hx hb dL_cell_7 rfl (lv_at hl 1 rfl) ?_
    refine rs_sld hx hb hX hbl (fun q => q) hS h1 hL dL_cell_8 ?_
    refine lv_goto (tgt := 13) hx hb dL_cell_9 (by decide) ?_
    exact W.iret hx hb hr (fun t ht hW => ⟨_, rfl, by rw [lw_ce, if_pos h1], ht⟩) (fun q hq => absurd hq List.not_mem_nil) dL_cell_13
/-- a call of cell in the law -/
theorem rs_cell {p : Program} {l : Launch} {e : Env} {R : Room} {s : State} {m : MethodId} {args : Array Value} {below : List Frame} {meth : Method} {c : Code} {H : Heap} {locs : List Loc} {cells slots : Nat} {Q : State → Prop} {cc : ByteArray} {pc : Nat} {ls : Array Slot} {rest : List Value} {A : Nat → Prop} {nL index b L k : Nat} {Ts : List Cond} {own : String} {xs : Nat → Int32} (F : CallFix p m c cc nL s args Ts own) (hsz : ls.size = nL) (cw : CallB R s args own index yL_cell cL_cell 2 (some .int) wsL_cell rm_0 0 0 2 ∧ (Cond.static yL_cell).before args s = true) (hX : va_X b L xs s s.heap) (hbl : b < s.heap.size) (hbA : ¬ A b) (hS : va_S A s.heap H locs) (hL : L < 2 ^ 31) (hk : k < 2 ^ 31) (hW : (rest.map fun v => v.category).sum ≤ 8) (hdg : decode cc pc = .ok (.invokestatic index, 3)) (hcl : cells ≤ R.cells) (hsl : slots ≤ R.slots)
    (kk : W p l e R s m args below meth c H locs cells slots Q (F0 m (pc + 3) ls (.int (lw_ce xs L k) :: rest))) : W p l e R s m args below meth c H locs cells slots Q (F0 m pc ls (.int (nI k) :: .ref b :: rest)) := by
  refine vp_callSi (W.runS (As := [.ref b, .int (nI k)]) F (c_cell l b L k xs hL hk) cw ⟨fun a U g mk q => ⟨q.1, va_X.moved (u := U) (U := U.calling g mk a) (Vm.Alike.refl U.vm) q.2⟩, fun U hU hW => ⟨rfl, ?_⟩⟩ rfl rfl hsz rfl (lv_room hW) hdg ⟨hcl, hsl⟩) (fun r hr => by rw [hr]; exact kk)
  show va_X b L xs U U.heap
  rw [hU]
  exact va_X.moved hW.alike (hX.kept (hS.2.1 b hbl hbA))
theorem st_hC (cI : ClassId) (o ar ac av vx py li : Nat) (a : st_A) (u : st_C) : ∃ fs, (st_wC cI o ar ac av vx py li a u)[0]? = some (o, .inr (1, fs)) := by
  obtain ⟨⟨K, R, C, S, np⟩, M0, P, X, Y⟩ := a
  obtain ⟨⟨su, sa, sb, sc⟩, ⟨sp, ta, tb, tc⟩, ⟨f, g, w⟩, ⟨f2, g2, w2⟩, ⟨pR, pC, pV⟩, ⟨vX, pY, lI⟩⟩ := u
  exact ⟨_, rfl⟩
theorem st_hM (cI : ClassId) (o mo xx yy : Nat) (a : st_A) (u : st_M) : ∃ fs, (st_wM cI o mo xx yy a u)[0]? = some (o, .inr (2, fs)) := by
  obtain ⟨⟨K, R, C, S, np⟩, M0, P, X, Y⟩ := a
  obtain ⟨⟨ta, ot⟩, T, O, E, xX, yY⟩ := u
  exact ⟨_, rfl⟩
theorem st_b60 {a : st_A} {u : st_C} (h : st_rc a u) : a.1.2.2.2.1 ≤ 60 ∧ a.1.2.1 ≤ 60 := by
  obtain ⟨⟨K, R, C, S, np⟩, M0, P, X, Y⟩ := a
  obtain ⟨⟨su, sa, sb, sc⟩, ⟨sp, ta, tb, tc⟩, ⟨f, g, w⟩, ⟨f2, g2, w2⟩, ⟨pR, pC, pV⟩, ⟨vX, pY, lI⟩⟩ := u
  have h : st_RC K R C S np M0 P X Y f g w f2 pR pC pV vX pY := h
  obtain ⟨⟨b1, b2, b3, b4, b5, b6, b7, b8⟩, -⟩ := h.1
  exact ⟨b5, Nat.le_trans b3 b5⟩
theorem lw_len {L i : Nat} (hL : L ≤ 2051) (hi : i ≤ L + 3) : (nI L - nI 4 < nI i → L < i + 4) ∧ (¬ nI L - nI 4 < nI i → i + 4 ≤ L) := by
  have e : (nI L - nI 4).toInt = (L : Int) - (4 : Nat) := pk_sub_toInt (by omega) (by omega)
  rw [ms_lt, e, nI_toInt (by omega)]
  exact ⟨fun h => by omega, fun h => by omega⟩
end
section
/-- the law's loop at its head: class and reference hold one state -/
def lw_N (p : Program) (l : Launch) (e : Env) (s : State) (m : MethodId) (below : List Frame) (meth : Method) (c : Code) (b : Nat) (D : va_G) (cI : ClassId) (o ar ac av vx py li o2 mo xx yy : Nat) (i : Nat) : Prop := ∀ (a : st_A) (u : st_C) (v : st_M) (H : Heap) (locs : List Loc) (ls : Array Slot), st_rc a u → st_rm a v → va_P D vwCl (st_wC cI o ar ac av vx py li a u) H → va_P D vwCl (st_wM cI o2 mo xx yy a v) H → va_D (fun q : Nat => s.heap.size ≤ q) ((st_wC cI o ar ac av vx py li a u) ++ (st_wM cI o2 mo xx yy a v)) → va_S (fun q : Nat => s.heap.size ≤ q) s.heap H locs → lv_has ls 4 [(0, .ref b), (1, .ref o), (2, .ref o2), (3, .int (nI i))] → W p l e room_1 s m #[Value.ref b] below meth c H locs 600000 7302250 (lw_Z below #[Value.ref b] s) (F0 m 48 ls [])
set_option maxHeartbeats 4000000 in
set_option maxRecDepth 100000 in
theorem law_add {p : Program} {l : Launch} {e : Env} {s : State} {m : MethodId} {below : List Frame} {meth : Method} {c : Code} {b L : Nat} {xs : Nat → Int32} {D : va_G} {cI : ClassId} {o ar ac av vx py li o2 mo xx yy : Nat} (hL : L ≤ 2051) (C0 : lw_At p s m meth c b L xs) (hK : va_K D vwCl [(cI, .int)] s) {i : Nat} (hi : i + 4 ≤ L) (nx : lw_N p l e s m below meth c b D cI o ar ac av vx py li o2 mo xx yy (i + 4)) (a : st_A) (u : st_C) (v : st_M) (H : Heap) (locs : List Loc) (ls : Array Slot) : st_rc a u → st_rm a v → va_P D vwCl (st_wC cI o ar ac av vx py li a u) H → va_P D vwCl (st_wM cI o2 mo xx yy a v) H → va_D (fun q : Nat => s.heap.size ≤ q) ((st_wC cI o ar ac av vx py li a u) ++ (st_wM cI o2 mo xx yy a v)) → va_S (fun q : Nat => s.heap.size ≤ q) s.heap H locs → lv_has ls 4 [(0, .ref b), (1, .ref o), (2, .ref o2), (3, .int (nI i))] → W p l e room_1 s m #[Value.ref b] below meth c H locs 600000 7302250 (lw_Z below #[Value.ref b] s) (F0 m 124 ls []) := by
  intro hrc hrm hPC hPM hD hS hl
  obtain ⟨hx, hb, hr, hml, hown, hts0, hX, hbl, hlocks, hgv⟩ := id C0
  have hts := fun w h => hts0 w (wsL_law_in w h)
  have hA : ∀ q : Nat, s.heap.size ≤ q → (fun q : Nat => s.heap.size ≤ q) q := fun _ h => h
  have hbA : ¬ (fun q : Nat => s.heap.size ≤ q) b := Nat.not_le.mpr hbl
  refine lv_aload_n hx hb dL_law_124 rfl (lv_at hl 1 rfl) ?_
  refine lv_aload_n hx hb dL_law_125 rfl (lv_at hl 0 rfl) ?_
  refine lv_iload_n hx hb dL_law_126 rfl (lv_at hl 3 rfl) ?_
  refine lv_iconst (v := nI 1) hx hb dL_law_127 (by decide +kernel) ?_
  refine rv_iadd hx hb dL_law_128 ?_
  refine rs_sld hx hb hX hbl hbA hS (show i + 1 < L by omega) (by omega) dL_law_129 ?_
  refine lv_aload_n hx hb dL_law_130 rfl (lv_at hl 0 rfl) ?_
  refine lv_iload_n hx hb dL_law_131 rfl (lv_at hl 3 rfl) ?_
  refine lv_iconst (v := nI 2) hx hb dL_law_132 (by decide +kernel) ?_
  refine rv_iadd hx hb dL_law_133 ?_
  refine rs_sld hx hb hX hbl hbA hS (show i + 2 < L by omega) (by omega) dL_law_134 ?_
  refine lv_aload_n hx hb dL_law_135 rfl (lv_at hl 0 rfl) ?_
  refine lv_iload_n hx hb dL_law_136 rfl (lv_at hl 3 rfl) ?_
  refine lv_iconst (v := nI 3) hx hb dL_law_137 (by decide +kernel) ?_
  refine rv_iadd hx hb dL_law_138 ?_
  refine rs_sld hx hb hX hbl hbA hS (show i + 3 < L by omega) (by omega) dL_law_139 ?_
  refine rs_LI (As := [.int (xs (i + 1)), .int (xs (i + 2)), .int (xs (i + 3))]) (rest := []) ⟨hx, hb, hml, hown, hts⟩ hl.1 (c_add l D cI o ar ac av vx py li a u hrc (xs (i + 1)) (xs (i + 2)) (xs (i + 3))) (cwV 3 hts gL_law_X1_add rfl rfl rfl (by decide +kernel) ⟨Nat.le_of_ble_eq_true rfl, Nat.le_of_ble_eq_true rfl⟩) hK hPC hPM hD hS hA rfl (st_hC cI o ar ac av vx py li a u) rfl rfl (Nat.le_of_ble_eq_true rfl) dL_law_140 (Nat.le_of_ble_eq_true rfl) (Nat.le_of_ble_eq_true rfl) (fun r1 x1 H locs h1 hPC hPM hD hS => ?_)
  obtain ⟨a1, u1⟩ := x1
  obtain ⟨h1, ea, hrc1⟩ := h1
  have ea : a1 = up_add a (xs (i + 1)) (xs (i + 2)) (xs (i + 3)) := ea
  subst ea
  have hPC : va_P D vwCl (st_wC cI o ar ac av vx py li (up_add a (xs (i + 1)) (xs (i + 2)) (xs (i + 3))) u1) H := hPC
  have hD : va_D (fun q : Nat => s.heap.size ≤ q) ((st_wC cI o ar ac av vx py li (up_add a (xs (i + 1)) (xs (i + 2)) (xs (i + 3))) u1) ++ (st_wM cI o2 mo xx yy a v)) := hD
  refine lv_aload_n hx hb dL_law_143 rfl (lv_at hl 2 rfl) ?_
  refine lv_aload_n hx hb dL_law_144 rfl (lv_at hl 0 rfl) ?_
  refine lv_iload_n hx hb dL_law_145 rfl (lv_at hl 3 rfl) ?_
  refine lv_iconst (v := nI 1) hx hb dL_law_146 (by decide +kernel) ?_
  refine rv_iadd hx hb dL_law_147 ?_
  refine rs_sld hx hb hX hbl hbA hS (show i + 1 < L by omega) (by omega) dL_law_148 ?_
  refine lv_aload_n hx hb dL_law_149 rfl (lv_at hl 0 rfl) ?_
  refine lv_iload_n hx hb dL_law_150 rfl (lv_at hl 3 rfl) ?_
  refine lv_iconst (v := nI 2) hx hb dL_law_151 (by decide +kernel) ?_
  refine rv_iadd hx hb dL_law_152 ?_
  refine rs_sld hx hb hX hbl hbA hS (show i + 2 < L by omega) (by omega) dL_law_153 ?_
  refine lv_aload_n hx hb dL_law_154 rfl (lv_at hl 0 rfl) ?_
  refine lv_iload_n hx hb dL_law_155 rfl (lv_at hl 3 rfl) ?_
  refine lv_iconst (v := nI 3) hx hb dL_law_156 (by decide +kernel) ?_
  refine rv_iadd hx hb dL_law_157 ?_
  refine rs_sld hx hb hX hbl hbA hS (show i + 3 < L by omega) (by omega) dL_law_158 ?_
  refine rs_LI (As := [.int (xs (i + 1)), .int (xs (i + 2)), .int (xs (i + 3))]) (rest := [.int r1]) ⟨hx, hb, hml, hown, hts⟩ hl.1 (d_add l D cI o2 mo xx yy a v hrm (xs (i + 1)) (xs (i + 2)) (xs (i + 3))) (cwV 3 hts gL_law_X2_add rfl rfl rfl (by decide +kernel) ⟨Nat.le_of_ble_eq_true rfl, Nat.le_of_ble_eq_true rfl⟩) hK hPM hPC (rs_swap hD) hS hA rfl (st_hM cI o2 mo xx yy a v) rfl rfl (Nat.le_of_ble_eq_true rfl) dL_law_159 (Nat.le_of_ble_eq_true rfl) (Nat.le_of_ble_eq_true rfl) (fun r2 x2 H locs h2 hPM hPC hD hS => ?_)
  obtain ⟨a2, v1⟩ := x2
  obtain ⟨h2, ea, hrm1⟩ := h2
  have ea : a2 = up_add a (xs (i + 1)) (xs (i + 2)) (xs (i + 3)) := ea
  subst ea
  have hPM : va_P D vwCl (st_wM cI o2 mo xx yy (up_add a (xs (i + 1)) (xs (i + 2)) (xs (i + 3))) v1) H := hPM
  have hD : va_D (fun q : Nat => s.heap.size ≤ q) ((st_wC cI o ar ac av vx py li (up_add a (xs (i + 1)) (xs (i + 2)) (xs (i + 3))) u1) ++ (st_wM cI o2 mo xx yy (up_add a (xs (i + 1)) (xs (i + 2)) (xs (i + 3))) v1)) := rs_swap hD
  refine rv_iceq_t (tgt := 390) hx hb dL_law_162 (by decide) (h1.trans h2.symm) ?_
  refine lv_iinc (v := nI (i + 4)) (lv' := [(3, .int (nI (i + 4))), (0, .ref b), (1, .ref o), (2, .ref o2)]) hx hb dL_law_390 hl (k := 3) rfl (rv_inc4 _) (by decide) rfl (fun ls hl => ?_)
  refine lv_goto (tgt := 48) hx hb dL_law_393 (by decide) ?_
  exact nx (up_add a (xs (i + 1)) (xs (i + 2)) (xs (i + 3))) u1 v1 _ _ _ hrc1 hrm1 hPC hPM hD hS (lv_sub hl [1, 2, 3, 0] rfl)

set_option maxHeartbeats 4000000 in
set_option maxRecDepth 100000 in
theorem law_build {p : Program} {l : Launch} {e : Env} {s : State} {m : MethodId} {below : List Frame} {meth : Method} {c : Code} {b L : Nat} {xs : Nat → Int32} {D : va_G} {cI : ClassId} {o ar ac av vx py li o2 mo xx yy : Nat} (hL : L ≤ 2051) (C0 : lw_At p s m meth c b L xs) (hK : va_K D vwCl [(cI, .int)] s) {i : Nat} (hi : i + 4 ≤ L) (nx : lw_N p l e s m below meth c b D cI o ar ac av vx py li o2 mo xx yy (i + 4)) (a : st_A) (u : st_C) (v : st_M) (H : Heap) (locs : List Loc) (ls : Array Slot) : st_rc a u → st_rm a v → va_P D vwCl (st_wC cI o ar ac av vx py li a u) H → va_P D vwCl (st_wM cI o2 mo xx yy a v) H → va_D (fun q : Nat => s.heap.size ≤ q) ((st_wC cI o ar ac av vx py li a u) ++ (st_wM cI o2 mo xx yy a v)) → va_S (fun q : Nat => s.heap.size ≤ q) s.heap H locs → lv_has ls 4 [(0, .ref b), (1, .ref o), (2, .ref o2), (3, .int (nI i))] → W p l e room_1 s m #[Value.ref b] below meth c H locs 600000 7302250 (lw_Z below #[Value.ref b] s) (F0 m 167 ls []) := by
  intro hrc hrm hPC hPM hD hS hl
  obtain ⟨hx, hb, hr, hml, hown, hts0, hX, hbl, hlocks, hgv⟩ := id C0
  have hts := fun w h => hts0 w (wsL_law_in w h)
  have hA : ∀ q : Nat, s.heap.size ≤ q → (fun q : Nat => s.heap.size ≤ q) q := fun _ h => h
  have hbA : ¬ (fun q : Nat => s.heap.size ≤ q) b := Nat.not_le.mpr hbl
  refine lv_aload_n hx hb dL_law_167 rfl (lv_at hl 1 rfl) ?_
  refine rs_LI (As := []) (rest := []) ⟨hx, hb, hml, hown, hts⟩ hl.1 (c_build l D cI o ar ac av vx py li a u hrc) (cwV 0 hts gL_law_X1_build rfl rfl rfl (by decide +kernel) ⟨Nat.le_of_ble_eq_true rfl, Nat.le_of_ble_eq_true rfl⟩) hK hPC hPM hD hS hA rfl (st_hC cI o ar ac av vx py li a u) rfl rfl (Nat.le_of_ble_eq_true rfl) dL_law_168 (Nat.le_of_ble_eq_true rfl) (Nat.le_of_ble_eq_true rfl) (fun r1 x1 H locs h1 hPC hPM hD hS => ?_)
  obtain ⟨a1, u1⟩ := x1
  obtain ⟨h1, ea, hrc1⟩ := h1
  have ea : a1 = up_build a := ea
  subst ea
  have hPC : va_P D vwCl (st_wC cI o ar ac av vx py li (up_build a) u1) H := hPC
  have hD : va_D (fun q : Nat => s.heap.size ≤ q) ((st_wC cI o ar ac av vx py li (up_build a) u1) ++ (st_wM cI o2 mo xx yy a v)) := hD
  refine lv_aload_n hx hb dL_law_171 rfl (lv_at hl 2 rfl) ?_
  refine rs_LI (As := []) (rest := [.int r1]) ⟨hx, hb, hml, hown, hts⟩ hl.1 (d_build l D cI o2 mo xx yy a v hrm) (cwV 0 hts gL_law_X2_build rfl rfl rfl (by decide +kernel) ⟨Nat.le_of_ble_eq_true rfl, Nat.le_of_ble_eq_true rfl⟩) hK hPM hPC (rs_swap hD) hS hA rfl (st_hM cI o2 mo xx yy a v) rfl rfl (Nat.le_of_ble_eq_true rfl) dL_law_172 (Nat.le_of_ble_eq_true rfl) (Nat.le_of_ble_eq_true rfl) (fun r2 x2 H locs h2 hPM hPC hD hS => ?_)
  obtain ⟨a2, v1⟩ := x2
  obtain ⟨h2, ea, hrm1⟩ := h2
  have ea : a2 = up_build a := ea
  subst ea
  have hPM : va_P D vwCl (st_wM cI o2 mo xx yy (up_build a) v1) H := hPM
  have hD : va_D (fun q : Nat => s.heap.size ≤ q) ((st_wC cI o ar ac av vx py li (up_build a) u1) ++ (st_wM cI o2 mo xx yy (up_build a) v1)) := rs_swap hD
  refine rv_iceq_t (tgt := 390) hx hb dL_law_175 (by decide) (h1.trans h2.symm) ?_
  refine lv_iinc (v := nI (i + 4)) (lv' := [(3, .int (nI (i + 4))), (0, .ref b), (1, .ref o), (2, .ref o2)]) hx hb dL_law_390 hl (k := 3) rfl (rv_inc4 _) (by decide) rfl (fun ls hl => ?_)
  refine lv_goto (tgt := 48) hx hb dL_law_393 (by decide) ?_
  exact nx (up_build a) u1 v1 _ _ _ hrc1 hrm1 hPC hPM hD hS (lv_sub hl [1, 2, 3, 0] rfl)

set_option maxHeartbeats 4000000 in
set_option maxRecDepth 100000 in
theorem law_nnz {p : Program} {l : Launch} {e : Env} {s : State} {m : MethodId} {below : List Frame} {meth : Method} {c : Code} {b L : Nat} {xs : Nat → Int32} {D : va_G} {cI : ClassId} {o ar ac av vx py li o2 mo xx yy : Nat} (hL : L ≤ 2051) (C0 : lw_At p s m meth c b L xs) (hK : va_K D vwCl [(cI, .int)] s) {i : Nat} (hi : i + 4 ≤ L) (nx : lw_N p l e s m below meth c b D cI o ar ac av vx py li o2 mo xx yy (i + 4)) (a : st_A) (u : st_C) (v : st_M) (H : Heap) (locs : List Loc) (ls : Array Slot) : st_rc a u → st_rm a v → va_P D vwCl (st_wC cI o ar ac av vx py li a u) H → va_P D vwCl (st_wM cI o2 mo xx yy a v) H → va_D (fun q : Nat => s.heap.size ≤ q) ((st_wC cI o ar ac av vx py li a u) ++ (st_wM cI o2 mo xx yy a v)) → va_S (fun q : Nat => s.heap.size ≤ q) s.heap H locs → lv_has ls 4 [(0, .ref b), (1, .ref o), (2, .ref o2), (3, .int (nI i))] → W p l e room_1 s m #[Value.ref b] below meth c H locs 600000 7302250 (lw_Z below #[Value.ref b] s) (F0 m 180 ls []) := by
  intro hrc hrm hPC hPM hD hS hl
  obtain ⟨hx, hb, hr, hml, hown, hts0, hX, hbl, hlocks, hgv⟩ := id C0
  have hts := fun w h => hts0 w (wsL_law_in w h)
  have hA : ∀ q : Nat, s.heap.size ≤ q → (fun q : Nat => s.heap.size ≤ q) q := fun _ h => h
  have hbA : ¬ (fun q : Nat => s.heap.size ≤ q) b := Nat.not_le.mpr hbl
  refine lv_aload_n hx hb dL_law_180 rfl (lv_at hl 1 rfl) ?_
  refine rs_LR (As := []) (rest := []) ⟨hx, hb, hml, hown, hts⟩ hl.1 (c_nnz l D cI o ar ac av vx py li a u hrc) (cwV 0 hts gL_law_X1_nnz rfl rfl rfl (by decide +kernel) ⟨Nat.le_of_ble_eq_true rfl, Nat.le_of_ble_eq_true rfl⟩) hK hPC rfl (st_hC cI o ar ac av vx py li a u) rfl rfl (Nat.le_of_ble_eq_true rfl) dL_law_181 (Nat.le_of_ble_eq_true rfl) (Nat.le_of_ble_eq_true rfl) (fun r1 h1 => ?_)
  refine lv_aload_n hx hb dL_law_184 rfl (lv_at hl 2 rfl) ?_
  refine rs_LR (As := []) (rest := [.int r1]) ⟨hx, hb, hml, hown, hts⟩ hl.1 (d_nnz l D cI o2 mo xx yy a v hrm) (cwV 0 hts gL_law_X2_nnz rfl rfl rfl (by decide +kernel) ⟨Nat.le_of_ble_eq_true rfl, Nat.le_of_ble_eq_true rfl⟩) hK hPM rfl (st_hM cI o2 mo xx yy a v) rfl rfl (Nat.le_of_ble_eq_true rfl) dL_law_185 (Nat.le_of_ble_eq_true rfl) (Nat.le_of_ble_eq_true rfl) (fun r2 h2 => ?_)
  refine rv_iceq_t (tgt := 390) hx hb dL_law_188 (by decide) (h1.trans h2.symm) ?_
  refine lv_iinc (v := nI (i + 4)) (lv' := [(3, .int (nI (i + 4))), (0, .ref b), (1, .ref o), (2, .ref o2)]) hx hb dL_law_390 hl (k := 3) rfl (rv_inc4 _) (by decide) rfl (fun ls hl => ?_)
  refine lv_goto (tgt := 48) hx hb dL_law_393 (by decide) ?_
  exact nx a u v _ _ _ hrc hrm hPC hPM hD hS (lv_sub hl [1, 2, 3, 0] rfl)

set_option maxHeartbeats 4000000 in
set_option maxRecDepth 100000 in
theorem law_at {p : Program} {l : Launch} {e : Env} {s : State} {m : MethodId} {below : List Frame} {meth : Method} {c : Code} {b L : Nat} {xs : Nat → Int32} {D : va_G} {cI : ClassId} {o ar ac av vx py li o2 mo xx yy : Nat} (hL : L ≤ 2051) (C0 : lw_At p s m meth c b L xs) (hK : va_K D vwCl [(cI, .int)] s) {i : Nat} (hi : i + 4 ≤ L) (nx : lw_N p l e s m below meth c b D cI o ar ac av vx py li o2 mo xx yy (i + 4)) (a : st_A) (u : st_C) (v : st_M) (H : Heap) (locs : List Loc) (ls : Array Slot) : st_rc a u → st_rm a v → va_P D vwCl (st_wC cI o ar ac av vx py li a u) H → va_P D vwCl (st_wM cI o2 mo xx yy a v) H → va_D (fun q : Nat => s.heap.size ≤ q) ((st_wC cI o ar ac av vx py li a u) ++ (st_wM cI o2 mo xx yy a v)) → va_S (fun q : Nat => s.heap.size ≤ q) s.heap H locs → lv_has ls 4 [(0, .ref b), (1, .ref o), (2, .ref o2), (3, .int (nI i))] → W p l e room_1 s m #[Value.ref b] below meth c H locs 600000 7302250 (lw_Z below #[Value.ref b] s) (F0 m 193 ls []) := by
  intro hrc hrm hPC hPM hD hS hl
  obtain ⟨hx, hb, hr, hml, hown, hts0, hX, hbl, hlocks, hgv⟩ := id C0
  have hts := fun w h => hts0 w (wsL_law_in w h)
  have hA : ∀ q : Nat, s.heap.size ≤ q → (fun q : Nat => s.heap.size ≤ q) q := fun _ h => h
  have hbA : ¬ (fun q : Nat => s.heap.size ≤ q) b := Nat.not_le.mpr hbl
  refine lv_aload_n hx hb dL_law_193 rfl (lv_at hl 1 rfl) ?_
  refine lv_aload_n hx hb dL_law_194 rfl (lv_at hl 0 rfl) ?_
  refine lv_iload_n hx hb dL_law_195 rfl (lv_at hl 3 rfl) ?_
  refine lv_iconst (v := nI 1) hx hb dL_law_196 (by decide +kernel) ?_
  refine rv_iadd hx hb dL_law_197 ?_
  refine rs_sld hx hb hX hbl hbA hS (show i + 1 < L by omega) (by omega) dL_law_198 ?_
  refine lv_aload_n hx hb dL_law_199 rfl (lv_at hl 0 rfl) ?_
  refine lv_iload_n hx hb dL_law_200 rfl (lv_at hl 3 rfl) ?_
  refine lv_iconst (v := nI 2) hx hb dL_law_201 (by decide +kernel) ?_
  refine rv_iadd hx hb dL_law_202 ?_
  refine rs_sld hx hb hX hbl hbA hS (show i + 2 < L by omega) (by omega) dL_law_203 ?_
  refine rs_LR (As := [.int (xs (i + 1)), .int (xs (i + 2))]) (rest := []) ⟨hx, hb, hml, hown, hts⟩ hl.1 (c_at l D cI o ar ac av vx py li a u hrc (xs (i + 1)) (xs (i + 2))) (cwV 2 hts gL_law_X1_at rfl rfl rfl (by decide +kernel) ⟨Nat.le_of_ble_eq_true rfl, Nat.le_of_ble_eq_true rfl⟩) hK hPC rfl (st_hC cI o ar ac av vx py li a u) rfl rfl (Nat.le_of_ble_eq_true rfl) dL_law_204 (Nat.le_of_ble_eq_true rfl) (Nat.le_of_ble_eq_true rfl) (fun r1 h1 => ?_)
  refine lv_aload_n hx hb dL_law_207 rfl (lv_at hl 2 rfl) ?_
  refine lv_aload_n hx hb dL_law_208 rfl (lv_at hl 0 rfl) ?_
  refine lv_iload_n hx hb dL_law_209 rfl (lv_at hl 3 rfl) ?_
  refine lv_iconst (v := nI 1) hx hb dL_law_210 (by decide +kernel) ?_
  refine rv_iadd hx hb dL_law_211 ?_
  refine rs_sld hx hb hX hbl hbA hS (show i + 1 < L by omega) (by omega) dL_law_212 ?_
  refine lv_aload_n hx hb dL_law_213 rfl (lv_at hl 0 rfl) ?_
  refine lv_iload_n hx hb dL_law_214 rfl (lv_at hl 3 rfl) ?_
  refine lv_iconst (v := nI 2) hx hb dL_law_215 (by decide +kernel) ?_
  refine rv_iadd hx hb dL_law_216 ?_
  refine rs_sld hx hb hX hbl hbA hS (show i + 2 < L by omega) (by omega) dL_law_217 ?_
  refine rs_LR (As := [.int (xs (i + 1)), .int (xs (i + 2))]) (rest := [.int r1]) ⟨hx, hb, hml, hown, hts⟩ hl.1 (d_at l D cI o2 mo xx yy a v hrm (xs (i + 1)) (xs (i + 2))) (cwV 2 hts gL_law_X2_at rfl rfl rfl (by decide +kernel) ⟨Nat.le_of_ble_eq_true rfl, Nat.le_of_ble_eq_true rfl⟩) hK hPM rfl (st_hM cI o2 mo xx yy a v) rfl rfl (Nat.le_of_ble_eq_true rfl) dL_law_218 (Nat.le_of_ble_eq_true rfl) (Nat.le_of_ble_eq_true rfl) (fun r2 h2 => ?_)
  refine rv_iceq_t (tgt := 390) hx hb dL_law_221 (by decide) (h1.trans h2.symm) ?_
  refine lv_iinc (v := nI (i + 4)) (lv' := [(3, .int (nI (i + 4))), (0, .ref b), (1, .ref o), (2, .ref o2)]) hx hb dL_law_390 hl (k := 3) rfl (rv_inc4 _) (by decide) rfl (fun ls hl => ?_)
  refine lv_goto (tgt := 48) hx hb dL_law_393 (by decide) ?_
  exact nx a u v _ _ _ hrc hrm hPC hPM hD hS (lv_sub hl [1, 2, 3, 0] rfl)

set_option maxHeartbeats 4000000 in
set_option maxRecDepth 100000 in
theorem law_rowStart {p : Program} {l : Launch} {e : Env} {s : State} {m : MethodId} {below : List Frame} {meth : Method} {c : Code} {b L : Nat} {xs : Nat → Int32} {D : va_G} {cI : ClassId} {o ar ac av vx py li o2 mo xx yy : Nat} (hL : L ≤ 2051) (C0 : lw_At p s m meth c b L xs) (hK : va_K D vwCl [(cI, .int)] s) {i : Nat} (hi : i + 4 ≤ L) (nx : lw_N p l e s m below meth c b D cI o ar ac av vx py li o2 mo xx yy (i + 4)) (a : st_A) (u : st_C) (v : st_M) (H : Heap) (locs : List Loc) (ls : Array Slot) : st_rc a u → st_rm a v → va_P D vwCl (st_wC cI o ar ac av vx py li a u) H → va_P D vwCl (st_wM cI o2 mo xx yy a v) H → va_D (fun q : Nat => s.heap.size ≤ q) ((st_wC cI o ar ac av vx py li a u) ++ (st_wM cI o2 mo xx yy a v)) → va_S (fun q : Nat => s.heap.size ≤ q) s.heap H locs → lv_has ls 4 [(0, .ref b), (1, .ref o), (2, .ref o2), (3, .int (nI i))] → W p l e room_1 s m #[Value.ref b] below meth c H locs 600000 7302250 (lw_Z below #[Value.ref b] s) (F0 m 226 ls []) := by
  intro hrc hrm hPC hPM hD hS hl
  obtain ⟨hx, hb, hr, hml, hown, hts0, hX, hbl, hlocks, hgv⟩ := id C0
  have hts := fun w h => hts0 w (wsL_law_in w h)
  have hA : ∀ q : Nat, s.heap.size ≤ q → (fun q : Nat => s.heap.size ≤ q) q := fun _ h => h
  have hbA : ¬ (fun q : Nat => s.heap.size ≤ q) b := Nat.not_le.mpr hbl
  refine lv_aload_n hx hb dL_law_226 rfl (lv_at hl 1 rfl) ?_
  refine lv_aload_n hx hb dL_law_227 rfl (lv_at hl 0 rfl) ?_
  refine lv_iload_n hx hb dL_law_228 rfl (lv_at hl 3 rfl) ?_
  refine lv_iconst (v := nI 1) hx hb dL_law_229 (by decide +kernel) ?_
  refine rv_iadd hx hb dL_law_230 ?_
  refine rs_sld hx hb hX hbl hbA hS (show i + 1 < L by omega) (by omega) dL_law_231 ?_
  refine rs_LR (As := [.int (xs (i + 1))]) (rest := []) ⟨hx, hb, hml, hown, hts⟩ hl.1 (c_rowStart l D cI o ar ac av vx py li a u hrc (xs (i + 1))) (cwV 1 hts gL_law_X1_rowStart rfl rfl rfl (by decide +kernel) ⟨Nat.le_of_ble_eq_true rfl, Nat.le_of_ble_eq_true rfl⟩) hK hPC rfl (st_hC cI o ar ac av vx py li a u) rfl rfl (Nat.le_of_ble_eq_true rfl) dL_law_232 (Nat.le_of_ble_eq_true rfl) (Nat.le_of_ble_eq_true rfl) (fun r1 h1 => ?_)
  refine lv_aload_n hx hb dL_law_235 rfl (lv_at hl 2 rfl) ?_
  refine lv_aload_n hx hb dL_law_236 rfl (lv_at hl 0 rfl) ?_
  refine lv_iload_n hx hb dL_law_237 rfl (lv_at hl 3 rfl) ?_
  refine lv_iconst (v := nI 1) hx hb dL_law_238 (by decide +kernel) ?_
  refine rv_iadd hx hb dL_law_239 ?_
  refine rs_sld hx hb hX hbl hbA hS (show i + 1 < L by omega) (by omega) dL_law_240 ?_
  refine rs_LR (As := [.int (xs (i + 1))]) (rest := [.int r1]) ⟨hx, hb, hml, hown, hts⟩ hl.1 (d_rowStart l D cI o2 mo xx yy a v hrm (xs (i + 1))) (cwV 1 hts gL_law_X2_rowStart rfl rfl rfl (by decide +kernel) ⟨Nat.le_of_ble_eq_true rfl, Nat.le_of_ble_eq_true rfl⟩) hK hPM rfl (st_hM cI o2 mo xx yy a v) rfl rfl (Nat.le_of_ble_eq_true rfl) dL_law_241 (Nat.le_of_ble_eq_true rfl) (Nat.le_of_ble_eq_true rfl) (fun r2 h2 => ?_)
  refine rv_iceq_t (tgt := 390) hx hb dL_law_244 (by decide) (h1.trans h2.symm) ?_
  refine lv_iinc (v := nI (i + 4)) (lv' := [(3, .int (nI (i + 4))), (0, .ref b), (1, .ref o), (2, .ref o2)]) hx hb dL_law_390 hl (k := 3) rfl (rv_inc4 _) (by decide) rfl (fun ls hl => ?_)
  refine lv_goto (tgt := 48) hx hb dL_law_393 (by decide) ?_
  exact nx a u v _ _ _ hrc hrm hPC hPM hD hS (lv_sub hl [1, 2, 3, 0] rfl)

set_option maxHeartbeats 4000000 in
set_option maxRecDepth 100000 in
theorem law_colAt {p : Program} {l : Launch} {e : Env} {s : State} {m : MethodId} {below : List Frame} {meth : Method} {c : Code} {b L : Nat} {xs : Nat → Int32} {D : va_G} {cI : ClassId} {o ar ac av vx py li o2 mo xx yy : Nat} (hL : L ≤ 2051) (C0 : lw_At p s m meth c b L xs) (hK : va_K D vwCl [(cI, .int)] s) {i : Nat} (hi : i + 4 ≤ L) (nx : lw_N p l e s m below meth c b D cI o ar ac av vx py li o2 mo xx yy (i + 4)) (a : st_A) (u : st_C) (v : st_M) (H : Heap) (locs : List Loc) (ls : Array Slot) : st_rc a u → st_rm a v → va_P D vwCl (st_wC cI o ar ac av vx py li a u) H → va_P D vwCl (st_wM cI o2 mo xx yy a v) H → va_D (fun q : Nat => s.heap.size ≤ q) ((st_wC cI o ar ac av vx py li a u) ++ (st_wM cI o2 mo xx yy a v)) → va_S (fun q : Nat => s.heap.size ≤ q) s.heap H locs → lv_has ls 4 [(0, .ref b), (1, .ref o), (2, .ref o2), (3, .int (nI i))] → W p l e room_1 s m #[Value.ref b] below meth c H locs 600000 7302250 (lw_Z below #[Value.ref b] s) (F0 m 249 ls []) := by
  intro hrc hrm hPC hPM hD hS hl
  obtain ⟨hx, hb, hr, hml, hown, hts0, hX, hbl, hlocks, hgv⟩ := id C0
  have hts := fun w h => hts0 w (wsL_law_in w h)
  have hA : ∀ q : Nat, s.heap.size ≤ q → (fun q : Nat => s.heap.size ≤ q) q := fun _ h => h
  have hbA : ¬ (fun q : Nat => s.heap.size ≤ q) b := Nat.not_le.mpr hbl
  refine lv_aload_n hx hb dL_law_249 rfl (lv_at hl 1 rfl) ?_
  refine lv_aload_n hx hb dL_law_250 rfl (lv_at hl 0 rfl) ?_
  refine lv_iload_n hx hb dL_law_251 rfl (lv_at hl 3 rfl) ?_
  refine lv_iconst (v := nI 1) hx hb dL_law_252 (by decide +kernel) ?_
  refine rv_iadd hx hb dL_law_253 ?_
  refine rs_sld hx hb hX hbl hbA hS (show i + 1 < L by omega) (by omega) dL_law_254 ?_
  refine rs_LR (As := [.int (xs (i + 1))]) (rest := []) ⟨hx, hb, hml, hown, hts⟩ hl.1 (c_colAt l D cI o ar ac av vx py li a u hrc (xs (i + 1))) (cwV 1 hts gL_law_X1_colAt rfl rfl rfl (by decide +kernel) ⟨Nat.le_of_ble_eq_true rfl, Nat.le_of_ble_eq_true rfl⟩) hK hPC rfl (st_hC cI o ar ac av vx py li a u) rfl rfl (Nat.le_of_ble_eq_true rfl) dL_law_255 (Nat.le_of_ble_eq_true rfl) (Nat.le_of_ble_eq_true rfl) (fun r1 h1 => ?_)
  refine lv_aload_n hx hb dL_law_258 rfl (lv_at hl 2 rfl) ?_
  refine lv_aload_n hx hb dL_law_259 rfl (lv_at hl 0 rfl) ?_
  refine lv_iload_n hx hb dL_law_260 rfl (lv_at hl 3 rfl) ?_
  refine lv_iconst (v := nI 1) hx hb dL_law_261 (by decide +kernel) ?_
  refine rv_iadd hx hb dL_law_262 ?_
  refine rs_sld hx hb hX hbl hbA hS (show i + 1 < L by omega) (by omega) dL_law_263 ?_
  refine rs_LR (As := [.int (xs (i + 1))]) (rest := [.int r1]) ⟨hx, hb, hml, hown, hts⟩ hl.1 (d_colAt l D cI o2 mo xx yy a v hrm (xs (i + 1))) (cwV 1 hts gL_law_X2_colAt rfl rfl rfl (by decide +kernel) ⟨Nat.le_of_ble_eq_true rfl, Nat.le_of_ble_eq_true rfl⟩) hK hPM rfl (st_hM cI o2 mo xx yy a v) rfl rfl (Nat.le_of_ble_eq_true rfl) dL_law_264 (Nat.le_of_ble_eq_true rfl) (Nat.le_of_ble_eq_true rfl) (fun r2 h2 => ?_)
  refine rv_iceq_t (tgt := 390) hx hb dL_law_267 (by decide) (an_colAt_one (st_b60 hrc).1 (st_b60 hrc).2 h1 h2) ?_
  refine lv_iinc (v := nI (i + 4)) (lv' := [(3, .int (nI (i + 4))), (0, .ref b), (1, .ref o), (2, .ref o2)]) hx hb dL_law_390 hl (k := 3) rfl (rv_inc4 _) (by decide) rfl (fun ls hl => ?_)
  refine lv_goto (tgt := 48) hx hb dL_law_393 (by decide) ?_
  exact nx a u v _ _ _ hrc hrm hPC hPM hD hS (lv_sub hl [1, 2, 3, 0] rfl)

set_option maxHeartbeats 4000000 in
set_option maxRecDepth 100000 in
theorem law_setX {p : Program} {l : Launch} {e : Env} {s : State} {m : MethodId} {below : List Frame} {meth : Method} {c : Code} {b L : Nat} {xs : Nat → Int32} {D : va_G} {cI : ClassId} {o ar ac av vx py li o2 mo xx yy : Nat} (hL : L ≤ 2051) (C0 : lw_At p s m meth c b L xs) (hK : va_K D vwCl [(cI, .int)] s) {i : Nat} (hi : i + 4 ≤ L) (nx : lw_N p l e s m below meth c b D cI o ar ac av vx py li o2 mo xx yy (i + 4)) (a : st_A) (u : st_C) (v : st_M) (H : Heap) (locs : List Loc) (ls : Array Slot) : st_rc a u → st_rm a v → va_P D vwCl (st_wC cI o ar ac av vx py li a u) H → va_P D vwCl (st_wM cI o2 mo xx yy a v) H → va_D (fun q : Nat => s.heap.size ≤ q) ((st_wC cI o ar ac av vx py li a u) ++ (st_wM cI o2 mo xx yy a v)) → va_S (fun q : Nat => s.heap.size ≤ q) s.heap H locs → lv_has ls 4 [(0, .ref b), (1, .ref o), (2, .ref o2), (3, .int (nI i))] → W p l e room_1 s m #[Value.ref b] below meth c H locs 600000 7302250 (lw_Z below #[Value.ref b] s) (F0 m 272 ls []) := by
  intro hrc hrm hPC hPM hD hS hl
  obtain ⟨hx, hb, hr, hml, hown, hts0, hX, hbl, hlocks, hgv⟩ := id C0
  have hts := fun w h => hts0 w (wsL_law_in w h)
  have hA : ∀ q : Nat, s.heap.size ≤ q → (fun q : Nat => s.heap.size ≤ q) q := fun _ h => h
  have hbA : ¬ (fun q : Nat => s.heap.size ≤ q) b := Nat.not_le.mpr hbl
  refine lv_aload_n hx hb dL_law_272 rfl (lv_at hl 1 rfl) ?_
  refine lv_aload_n hx hb dL_law_273 rfl (lv_at hl 0 rfl) ?_
  refine lv_iload_n hx hb dL_law_274 rfl (lv_at hl 3 rfl) ?_
  refine lv_iconst (v := nI 1) hx hb dL_law_275 (by decide +kernel) ?_
  refine rv_iadd hx hb dL_law_276 ?_
  refine rs_sld hx hb hX hbl hbA hS (show i + 1 < L by omega) (by omega) dL_law_277 ?_
  refine lv_aload_n hx hb dL_law_278 rfl (lv_at hl 0 rfl) ?_
  refine lv_iload_n hx hb dL_law_279 rfl (lv_at hl 3 rfl) ?_
  refine lv_iconst (v := nI 2) hx hb dL_law_280 (by decide +kernel) ?_
  refine rv_iadd hx hb dL_law_281 ?_
  refine rs_sld hx hb hX hbl hbA hS (show i + 2 < L by omega) (by omega) dL_law_282 ?_
  refine rs_LI (As := [.int (xs (i + 1)), .int (xs (i + 2))]) (rest := []) ⟨hx, hb, hml, hown, hts⟩ hl.1 (c_setX l D cI o ar ac av vx py li a u hrc (xs (i + 1)) (xs (i + 2))) (cwV 2 hts gL_law_X1_setX rfl rfl rfl (by decide +kernel) ⟨Nat.le_of_ble_eq_true rfl, Nat.le_of_ble_eq_true rfl⟩) hK hPC hPM hD hS hA rfl (st_hC cI o ar ac av vx py li a u) rfl rfl (Nat.le_of_ble_eq_true rfl) dL_law_283 (Nat.le_of_ble_eq_true rfl) (Nat.le_of_ble_eq_true rfl) (fun r1 x1 H locs h1 hPC hPM hD hS => ?_)
  obtain ⟨a1, u1⟩ := x1
  obtain ⟨h1, ea, hrc1⟩ := h1
  have ea : a1 = up_setX a (xs (i + 1)) (xs (i + 2)) := ea
  subst ea
  have hPC : va_P D vwCl (st_wC cI o ar ac av vx py li (up_setX a (xs (i + 1)) (xs (i + 2))) u1) H := hPC
  have hD : va_D (fun q : Nat => s.heap.size ≤ q) ((st_wC cI o ar ac av vx py li (up_setX a (xs (i + 1)) (xs (i + 2))) u1) ++ (st_wM cI o2 mo xx yy a v)) := hD
  refine lv_aload_n hx hb dL_law_286 rfl (lv_at hl 2 rfl) ?_
  refine lv_aload_n hx hb dL_law_287 rfl (lv_at hl 0 rfl) ?_
  refine lv_iload_n hx hb dL_law_288 rfl (lv_at hl 3 rfl) ?_
  refine lv_iconst (v := nI 1) hx hb dL_law_289 (by decide +kernel) ?_
  refine rv_iadd hx hb dL_law_290 ?_
  refine rs_sld hx hb hX hbl hbA hS (show i + 1 < L by omega) (by omega) dL_law_291 ?_
  refine lv_aload_n hx hb dL_law_292 rfl (lv_at hl 0 rfl) ?_
  refine lv_iload_n hx hb dL_law_293 rfl (lv_at hl 3 rfl) ?_
  refine lv_iconst (v := nI 2) hx hb dL_law_294 (by decide +kernel) ?_
  refine rv_iadd hx hb dL_law_295 ?_
  refine rs_sld hx hb hX hbl hbA hS (show i + 2 < L by omega) (by omega) dL_law_296 ?_
  refine rs_LI (As := [.int (xs (i + 1)), .int (xs (i + 2))]) (rest := [.int r1]) ⟨hx, hb, hml, hown, hts⟩ hl.1 (d_setX l D cI o2 mo xx yy a v hrm (xs (i + 1)) (xs (i + 2))) (cwV 2 hts gL_law_X2_setX rfl rfl rfl (by decide +kernel) ⟨Nat.le_of_ble_eq_true rfl, Nat.le_of_ble_eq_true rfl⟩) hK hPM hPC (rs_swap hD) hS hA rfl (st_hM cI o2 mo xx yy a v) rfl rfl (Nat.le_of_ble_eq_true rfl) dL_law_297 (Nat.le_of_ble_eq_true rfl) (Nat.le_of_ble_eq_true rfl) (fun r2 x2 H locs h2 hPM hPC hD hS => ?_)
  obtain ⟨a2, v1⟩ := x2
  obtain ⟨h2, ea, hrm1⟩ := h2
  have ea : a2 = up_setX a (xs (i + 1)) (xs (i + 2)) := ea
  subst ea
  have hPM : va_P D vwCl (st_wM cI o2 mo xx yy (up_setX a (xs (i + 1)) (xs (i + 2))) v1) H := hPM
  have hD : va_D (fun q : Nat => s.heap.size ≤ q) ((st_wC cI o ar ac av vx py li (up_setX a (xs (i + 1)) (xs (i + 2))) u1) ++ (st_wM cI o2 mo xx yy (up_setX a (xs (i + 1)) (xs (i + 2))) v1)) := rs_swap hD
  refine rv_iceq_t (tgt := 390) hx hb dL_law_300 (by decide) (h1.trans h2.symm) ?_
  refine lv_iinc (v := nI (i + 4)) (lv' := [(3, .int (nI (i + 4))), (0, .ref b), (1, .ref o), (2, .ref o2)]) hx hb dL_law_390 hl (k := 3) rfl (rv_inc4 _) (by decide) rfl (fun ls hl => ?_)
  refine lv_goto (tgt := 48) hx hb dL_law_393 (by decide) ?_
  exact nx (up_setX a (xs (i + 1)) (xs (i + 2))) u1 v1 _ _ _ hrc1 hrm1 hPC hPM hD hS (lv_sub hl [1, 2, 3, 0] rfl)

set_option maxHeartbeats 4000000 in
set_option maxRecDepth 100000 in
theorem law_multiplyVector {p : Program} {l : Launch} {e : Env} {s : State} {m : MethodId} {below : List Frame} {meth : Method} {c : Code} {b L : Nat} {xs : Nat → Int32} {D : va_G} {cI : ClassId} {o ar ac av vx py li o2 mo xx yy : Nat} (hL : L ≤ 2051) (C0 : lw_At p s m meth c b L xs) (hK : va_K D vwCl [(cI, .int)] s) {i : Nat} (hi : i + 4 ≤ L) (nx : lw_N p l e s m below meth c b D cI o ar ac av vx py li o2 mo xx yy (i + 4)) (a : st_A) (u : st_C) (v : st_M) (H : Heap) (locs : List Loc) (ls : Array Slot) : st_rc a u → st_rm a v → va_P D vwCl (st_wC cI o ar ac av vx py li a u) H → va_P D vwCl (st_wM cI o2 mo xx yy a v) H → va_D (fun q : Nat => s.heap.size ≤ q) ((st_wC cI o ar ac av vx py li a u) ++ (st_wM cI o2 mo xx yy a v)) → va_S (fun q : Nat => s.heap.size ≤ q) s.heap H locs → lv_has ls 4 [(0, .ref b), (1, .ref o), (2, .ref o2), (3, .int (nI i))] → W p l e room_1 s m #[Value.ref b] below meth c H locs 600000 7302250 (lw_Z below #[Value.ref b] s) (F0 m 305 ls []) := by
  intro hrc hrm hPC hPM hD hS hl
  obtain ⟨hx, hb, hr, hml, hown, hts0, hX, hbl, hlocks, hgv⟩ := id C0
  have hts := fun w h => hts0 w (wsL_law_in w h)
  have hA : ∀ q : Nat, s.heap.size ≤ q → (fun q : Nat => s.heap.size ≤ q) q := fun _ h => h
  have hbA : ¬ (fun q : Nat => s.heap.size ≤ q) b := Nat.not_le.mpr hbl
  refine lv_aload_n hx hb dL_law_305 rfl (lv_at hl 1 rfl) ?_
  refine rs_LI (As := []) (rest := []) ⟨hx, hb, hml, hown, hts⟩ hl.1 (c_multiplyVector l D cI o ar ac av vx py li a u hrc) (cwV 0 hts gL_law_X1_multiplyVector rfl rfl rfl (by decide +kernel) ⟨Nat.le_of_ble_eq_true rfl, Nat.le_of_ble_eq_true rfl⟩) hK hPC hPM hD hS hA rfl (st_hC cI o ar ac av vx py li a u) rfl rfl (Nat.le_of_ble_eq_true rfl) dL_law_306 (Nat.le_of_ble_eq_true rfl) (Nat.le_of_ble_eq_true rfl) (fun r1 x1 H locs h1 hPC hPM hD hS => ?_)
  obtain ⟨a1, u1⟩ := x1
  obtain ⟨h1, ea, hrc1⟩ := h1
  have ea : a1 = up_mul a := ea
  subst ea
  have hPC : va_P D vwCl (st_wC cI o ar ac av vx py li (up_mul a) u1) H := hPC
  have hD : va_D (fun q : Nat => s.heap.size ≤ q) ((st_wC cI o ar ac av vx py li (up_mul a) u1) ++ (st_wM cI o2 mo xx yy a v)) := hD
  refine lv_aload_n hx hb dL_law_309 rfl (lv_at hl 2 rfl) ?_
  refine rs_LI (As := []) (rest := [.int r1]) ⟨hx, hb, hml, hown, hts⟩ hl.1 (d_multiplyVector l D cI o2 mo xx yy a v hrm) (cwV 0 hts gL_law_X2_multiplyVector rfl rfl rfl (by decide +kernel) ⟨Nat.le_of_ble_eq_true rfl, Nat.le_of_ble_eq_true rfl⟩) hK hPM hPC (rs_swap hD) hS hA rfl (st_hM cI o2 mo xx yy a v) rfl rfl (Nat.le_of_ble_eq_true rfl) dL_law_310 (Nat.le_of_ble_eq_true rfl) (Nat.le_of_ble_eq_true rfl) (fun r2 x2 H locs h2 hPM hPC hD hS => ?_)
  obtain ⟨a2, v1⟩ := x2
  obtain ⟨h2, ea, hrm1⟩ := h2
  have ea : a2 = up_mul a := ea
  subst ea
  have hPM : va_P D vwCl (st_wM cI o2 mo xx yy (up_mul a) v1) H := hPM
  have hD : va_D (fun q : Nat => s.heap.size ≤ q) ((st_wC cI o ar ac av vx py li (up_mul a) u1) ++ (st_wM cI o2 mo xx yy (up_mul a) v1)) := rs_swap hD
  refine rv_iceq_t (tgt := 390) hx hb dL_law_313 (by decide) (h1.trans h2.symm) ?_
  refine lv_iinc (v := nI (i + 4)) (lv' := [(3, .int (nI (i + 4))), (0, .ref b), (1, .ref o), (2, .ref o2)]) hx hb dL_law_390 hl (k := 3) rfl (rv_inc4 _) (by decide) rfl (fun ls hl => ?_)
  refine lv_goto (tgt := 48) hx hb dL_law_393 (by decide) ?_
  exact nx (up_mul a) u1 v1 _ _ _ hrc1 hrm1 hPC hPM hD hS (lv_sub hl [1, 2, 3, 0] rfl)

set_option maxHeartbeats 4000000 in
set_option maxRecDepth 100000 in
theorem law_y {p : Program} {l : Launch} {e : Env} {s : State} {m : MethodId} {below : List Frame} {meth : Method} {c : Code} {b L : Nat} {xs : Nat → Int32} {D : va_G} {cI : ClassId} {o ar ac av vx py li o2 mo xx yy : Nat} (hL : L ≤ 2051) (C0 : lw_At p s m meth c b L xs) (hK : va_K D vwCl [(cI, .int)] s) {i : Nat} (hi : i + 4 ≤ L) (nx : lw_N p l e s m below meth c b D cI o ar ac av vx py li o2 mo xx yy (i + 4)) (a : st_A) (u : st_C) (v : st_M) (H : Heap) (locs : List Loc) (ls : Array Slot) : st_rc a u → st_rm a v → va_P D vwCl (st_wC cI o ar ac av vx py li a u) H → va_P D vwCl (st_wM cI o2 mo xx yy a v) H → va_D (fun q : Nat => s.heap.size ≤ q) ((st_wC cI o ar ac av vx py li a u) ++ (st_wM cI o2 mo xx yy a v)) → va_S (fun q : Nat => s.heap.size ≤ q) s.heap H locs → lv_has ls 4 [(0, .ref b), (1, .ref o), (2, .ref o2), (3, .int (nI i))] → W p l e room_1 s m #[Value.ref b] below meth c H locs 600000 7302250 (lw_Z below #[Value.ref b] s) (F0 m 318 ls []) := by
  intro hrc hrm hPC hPM hD hS hl
  obtain ⟨hx, hb, hr, hml, hown, hts0, hX, hbl, hlocks, hgv⟩ := id C0
  have hts := fun w h => hts0 w (wsL_law_in w h)
  have hA : ∀ q : Nat, s.heap.size ≤ q → (fun q : Nat => s.heap.size ≤ q) q := fun _ h => h
  have hbA : ¬ (fun q : Nat => s.heap.size ≤ q) b := Nat.not_le.mpr hbl
  refine lv_aload_n hx hb dL_law_318 rfl (lv_at hl 1 rfl) ?_
  refine lv_aload_n hx hb dL_law_319 rfl (lv_at hl 0 rfl) ?_
  refine lv_iload_n hx hb dL_law_320 rfl (lv_at hl 3 rfl) ?_
  refine lv_iconst (v := nI 1) hx hb dL_law_321 (by decide +kernel) ?_
  refine rv_iadd hx hb dL_law_322 ?_
  refine rs_sld hx hb hX hbl hbA hS (show i + 1 < L by omega) (by omega) dL_law_323 ?_
  refine rs_LR (As := [.int (xs (i + 1))]) (rest := []) ⟨hx, hb, hml, hown, hts⟩ hl.1 (c_y l D cI o ar ac av vx py li a u hrc (xs (i + 1))) (cwV 1 hts gL_law_X1_y rfl rfl rfl (by decide +kernel) ⟨Nat.le_of_ble_eq_true rfl, Nat.le_of_ble_eq_true rfl⟩) hK hPC rfl (st_hC cI o ar ac av vx py li a u) rfl rfl (Nat.le_of_ble_eq_true rfl) dL_law_324 (Nat.le_of_ble_eq_true rfl) (Nat.le_of_ble_eq_true rfl) (fun r1 h1 => ?_)
  refine lv_aload_n hx hb dL_law_327 rfl (lv_at hl 2 rfl) ?_
  refine lv_aload_n hx hb dL_law_328 rfl (lv_at hl 0 rfl) ?_
  refine lv_iload_n hx hb dL_law_329 rfl (lv_at hl 3 rfl) ?_
  refine lv_iconst (v := nI 1) hx hb dL_law_330 (by decide +kernel) ?_
  refine rv_iadd hx hb dL_law_331 ?_
  refine rs_sld hx hb hX hbl hbA hS (show i + 1 < L by omega) (by omega) dL_law_332 ?_
  refine rs_LR (As := [.int (xs (i + 1))]) (rest := [.int r1]) ⟨hx, hb, hml, hown, hts⟩ hl.1 (d_y l D cI o2 mo xx yy a v hrm (xs (i + 1))) (cwV 1 hts gL_law_X2_y rfl rfl rfl (by decide +kernel) ⟨Nat.le_of_ble_eq_true rfl, Nat.le_of_ble_eq_true rfl⟩) hK hPM rfl (st_hM cI o2 mo xx yy a v) rfl rfl (Nat.le_of_ble_eq_true rfl) dL_law_333 (Nat.le_of_ble_eq_true rfl) (Nat.le_of_ble_eq_true rfl) (fun r2 h2 => ?_)
  refine rv_iceq_t (tgt := 390) hx hb dL_law_336 (by decide) (h1.trans h2.symm) ?_
  refine lv_iinc (v := nI (i + 4)) (lv' := [(3, .int (nI (i + 4))), (0, .ref b), (1, .ref o), (2, .ref o2)]) hx hb dL_law_390 hl (k := 3) rfl (rv_inc4 _) (by decide) rfl (fun ls hl => ?_)
  refine lv_goto (tgt := 48) hx hb dL_law_393 (by decide) ?_
  exact nx a u v _ _ _ hrc hrm hPC hPM hD hS (lv_sub hl [1, 2, 3, 0] rfl)

set_option maxHeartbeats 4000000 in
set_option maxRecDepth 100000 in
theorem law_transpose {p : Program} {l : Launch} {e : Env} {s : State} {m : MethodId} {below : List Frame} {meth : Method} {c : Code} {b L : Nat} {xs : Nat → Int32} {D : va_G} {cI : ClassId} {o ar ac av vx py li o2 mo xx yy : Nat} (hL : L ≤ 2051) (C0 : lw_At p s m meth c b L xs) (hK : va_K D vwCl [(cI, .int)] s) {i : Nat} (hi : i + 4 ≤ L) (nx : lw_N p l e s m below meth c b D cI o ar ac av vx py li o2 mo xx yy (i + 4)) (a : st_A) (u : st_C) (v : st_M) (H : Heap) (locs : List Loc) (ls : Array Slot) : st_rc a u → st_rm a v → va_P D vwCl (st_wC cI o ar ac av vx py li a u) H → va_P D vwCl (st_wM cI o2 mo xx yy a v) H → va_D (fun q : Nat => s.heap.size ≤ q) ((st_wC cI o ar ac av vx py li a u) ++ (st_wM cI o2 mo xx yy a v)) → va_S (fun q : Nat => s.heap.size ≤ q) s.heap H locs → lv_has ls 4 [(0, .ref b), (1, .ref o), (2, .ref o2), (3, .int (nI i))] → W p l e room_1 s m #[Value.ref b] below meth c H locs 600000 7302250 (lw_Z below #[Value.ref b] s) (F0 m 341 ls []) := by
  intro hrc hrm hPC hPM hD hS hl
  obtain ⟨hx, hb, hr, hml, hown, hts0, hX, hbl, hlocks, hgv⟩ := id C0
  have hts := fun w h => hts0 w (wsL_law_in w h)
  have hA : ∀ q : Nat, s.heap.size ≤ q → (fun q : Nat => s.heap.size ≤ q) q := fun _ h => h
  have hbA : ¬ (fun q : Nat => s.heap.size ≤ q) b := Nat.not_le.mpr hbl
  refine lv_aload_n hx hb dL_law_341 rfl (lv_at hl 1 rfl) ?_
  refine rs_LI (As := []) (rest := []) ⟨hx, hb, hml, hown, hts⟩ hl.1 (c_transpose l D cI o ar ac av vx py li a u hrc) (cwV 0 hts gL_law_X1_transpose rfl rfl rfl (by decide +kernel) ⟨Nat.le_of_ble_eq_true rfl, Nat.le_of_ble_eq_true rfl⟩) hK hPC hPM hD hS hA rfl (st_hC cI o ar ac av vx py li a u) rfl rfl (Nat.le_of_ble_eq_true rfl) dL_law_342 (Nat.le_of_ble_eq_true rfl) (Nat.le_of_ble_eq_true rfl) (fun r1 x1 H locs h1 hPC hPM hD hS => ?_)
  obtain ⟨a1, u1⟩ := x1
  obtain ⟨h1, ea, hrc1⟩ := h1
  have ea : a1 = up_turn a := ea
  subst ea
  have hPC : va_P D vwCl (st_wC cI o ar ac av vx py li (up_turn a) u1) H := hPC
  have hD : va_D (fun q : Nat => s.heap.size ≤ q) ((st_wC cI o ar ac av vx py li (up_turn a) u1) ++ (st_wM cI o2 mo xx yy a v)) := hD
  refine lv_aload_n hx hb dL_law_345 rfl (lv_at hl 2 rfl) ?_
  refine rs_LI (As := []) (rest := [.int r1]) ⟨hx, hb, hml, hown, hts⟩ hl.1 (d_transpose l D cI o2 mo xx yy a v hrm) (cwV 0 hts gL_law_X2_transpose rfl rfl rfl (by decide +kernel) ⟨Nat.le_of_ble_eq_true rfl, Nat.le_of_ble_eq_true rfl⟩) hK hPM hPC (rs_swap hD) hS hA rfl (st_hM cI o2 mo xx yy a v) rfl rfl (Nat.le_of_ble_eq_true rfl) dL_law_346 (Nat.le_of_ble_eq_true rfl) (Nat.le_of_ble_eq_true rfl) (fun r2 x2 H locs h2 hPM hPC hD hS => ?_)
  obtain ⟨a2, v1⟩ := x2
  obtain ⟨h2, ea, hrm1⟩ := h2
  have ea : a2 = up_turn a := ea
  subst ea
  have hPM : va_P D vwCl (st_wM cI o2 mo xx yy (up_turn a) v1) H := hPM
  have hD : va_D (fun q : Nat => s.heap.size ≤ q) ((st_wC cI o ar ac av vx py li (up_turn a) u1) ++ (st_wM cI o2 mo xx yy (up_turn a) v1)) := rs_swap hD
  refine rv_iceq_t (tgt := 390) hx hb dL_law_349 (by decide) (h1.trans h2.symm) ?_
  refine lv_iinc (v := nI (i + 4)) (lv' := [(3, .int (nI (i + 4))), (0, .ref b), (1, .ref o), (2, .ref o2)]) hx hb dL_law_390 hl (k := 3) rfl (rv_inc4 _) (by decide) rfl (fun ls hl => ?_)
  refine lv_goto (tgt := 48) hx hb dL_law_393 (by decide) ?_
  exact nx (up_turn a) u1 v1 _ _ _ hrc1 hrm1 hPC hPM hD hS (lv_sub hl [1, 2, 3, 0] rfl)

set_option maxHeartbeats 4000000 in
set_option maxRecDepth 100000 in
theorem law_square {p : Program} {l : Launch} {e : Env} {s : State} {m : MethodId} {below : List Frame} {meth : Method} {c : Code} {b L : Nat} {xs : Nat → Int32} {D : va_G} {cI : ClassId} {o ar ac av vx py li o2 mo xx yy : Nat} (hL : L ≤ 2051) (C0 : lw_At p s m meth c b L xs) (hK : va_K D vwCl [(cI, .int)] s) {i : Nat} (hi : i + 4 ≤ L) (nx : lw_N p l e s m below meth c b D cI o ar ac av vx py li o2 mo xx yy (i + 4)) (a : st_A) (u : st_C) (v : st_M) (H : Heap) (locs : List Loc) (ls : Array Slot) : st_rc a u → st_rm a v → va_P D vwCl (st_wC cI o ar ac av vx py li a u) H → va_P D vwCl (st_wM cI o2 mo xx yy a v) H → va_D (fun q : Nat => s.heap.size ≤ q) ((st_wC cI o ar ac av vx py li a u) ++ (st_wM cI o2 mo xx yy a v)) → va_S (fun q : Nat => s.heap.size ≤ q) s.heap H locs → lv_has ls 4 [(0, .ref b), (1, .ref o), (2, .ref o2), (3, .int (nI i))] → W p l e room_1 s m #[Value.ref b] below meth c H locs 600000 7302250 (lw_Z below #[Value.ref b] s) (F0 m 354 ls []) := by
  intro hrc hrm hPC hPM hD hS hl
  obtain ⟨hx, hb, hr, hml, hown, hts0, hX, hbl, hlocks, hgv⟩ := id C0
  have hts := fun w h => hts0 w (wsL_law_in w h)
  have hA : ∀ q : Nat, s.heap.size ≤ q → (fun q : Nat => s.heap.size ≤ q) q := fun _ h => h
  have hbA : ¬ (fun q : Nat => s.heap.size ≤ q) b := Nat.not_le.mpr hbl
  refine lv_aload_n hx hb dL_law_354 rfl (lv_at hl 1 rfl) ?_
  refine rs_LI (As := []) (rest := []) ⟨hx, hb, hml, hown, hts⟩ hl.1 (c_square l D cI o ar ac av vx py li a u hrc) (cwV 0 hts gL_law_X1_square rfl rfl rfl (by decide +kernel) ⟨Nat.le_of_ble_eq_true rfl, Nat.le_of_ble_eq_true rfl⟩) hK hPC hPM hD hS hA rfl (st_hC cI o ar ac av vx py li a u) rfl rfl (Nat.le_of_ble_eq_true rfl) dL_law_355 (Nat.le_of_ble_eq_true rfl) (Nat.le_of_ble_eq_true rfl) (fun r1 x1 H locs h1 hPC hPM hD hS => ?_)
  obtain ⟨a1, u1⟩ := x1
  obtain ⟨h1, ea, hrc1⟩ := h1
  have ea : a1 = up_square a := ea
  subst ea
  have hPC : va_P D vwCl (st_wC cI o ar ac av vx py li (up_square a) u1) H := hPC
  have hD : va_D (fun q : Nat => s.heap.size ≤ q) ((st_wC cI o ar ac av vx py li (up_square a) u1) ++ (st_wM cI o2 mo xx yy a v)) := hD
  refine lv_aload_n hx hb dL_law_358 rfl (lv_at hl 2 rfl) ?_
  refine rs_LI (As := []) (rest := [.int r1]) ⟨hx, hb, hml, hown, hts⟩ hl.1 (d_square l D cI o2 mo xx yy a v hrm) (cwV 0 hts gL_law_X2_square rfl rfl rfl (by decide +kernel) ⟨Nat.le_of_ble_eq_true rfl, Nat.le_of_ble_eq_true rfl⟩) hK hPM hPC (rs_swap hD) hS hA rfl (st_hM cI o2 mo xx yy a v) rfl rfl (Nat.le_of_ble_eq_true rfl) dL_law_359 (Nat.le_of_ble_eq_true rfl) (Nat.le_of_ble_eq_true rfl) (fun r2 x2 H locs h2 hPM hPC hD hS => ?_)
  obtain ⟨a2, v1⟩ := x2
  obtain ⟨h2, ea, hrm1⟩ := h2
  have ea : a2 = up_square a := ea
  subst ea
  have hPM : va_P D vwCl (st_wM cI o2 mo xx yy (up_square a) v1) H := hPM
  have hD : va_D (fun q : Nat => s.heap.size ≤ q) ((st_wC cI o ar ac av vx py li (up_square a) u1) ++ (st_wM cI o2 mo xx yy (up_square a) v1)) := rs_swap hD
  refine rv_iceq_t (tgt := 390) hx hb dL_law_362 (by decide) (h1.trans h2.symm) ?_
  refine lv_iinc (v := nI (i + 4)) (lv' := [(3, .int (nI (i + 4))), (0, .ref b), (1, .ref o), (2, .ref o2)]) hx hb dL_law_390 hl (k := 3) rfl (rv_inc4 _) (by decide) rfl (fun ls hl => ?_)
  refine lv_goto (tgt := 48) hx hb dL_law_393 (by decide) ?_
  exact nx (up_square a) u1 v1 _ _ _ hrc1 hrm1 hPC hPM hD hS (lv_sub hl [1, 2, 3, 0] rfl)

set_option maxHeartbeats 4000000 in
set_option maxRecDepth 100000 in
theorem law_count {p : Program} {l : Launch} {e : Env} {s : State} {m : MethodId} {below : List Frame} {meth : Method} {c : Code} {b L : Nat} {xs : Nat → Int32} {D : va_G} {cI : ClassId} {o ar ac av vx py li o2 mo xx yy : Nat} (hL : L ≤ 2051) (C0 : lw_At p s m meth c b L xs) (hK : va_K D vwCl [(cI, .int)] s) {i : Nat} (hi : i + 4 ≤ L) (nx : lw_N p l e s m below meth c b D cI o ar ac av vx py li o2 mo xx yy (i + 4)) (a : st_A) (u : st_C) (v : st_M) (H : Heap) (locs : List Loc) (ls : Array Slot) : st_rc a u → st_rm a v → va_P D vwCl (st_wC cI o ar ac av vx py li a u) H → va_P D vwCl (st_wM cI o2 mo xx yy a v) H → va_D (fun q : Nat => s.heap.size ≤ q) ((st_wC cI o ar ac av vx py li a u) ++ (st_wM cI o2 mo xx yy a v)) → va_S (fun q : Nat => s.heap.size ≤ q) s.heap H locs → lv_has ls 4 [(0, .ref b), (1, .ref o), (2, .ref o2), (3, .int (nI i))] → W p l e room_1 s m #[Value.ref b] below meth c H locs 600000 7302250 (lw_Z below #[Value.ref b] s) (F0 m 367 ls []) := by
  intro hrc hrm hPC hPM hD hS hl
  obtain ⟨hx, hb, hr, hml, hown, hts0, hX, hbl, hlocks, hgv⟩ := id C0
  have hts := fun w h => hts0 w (wsL_law_in w h)
  have hA : ∀ q : Nat, s.heap.size ≤ q → (fun q : Nat => s.heap.size ≤ q) q := fun _ h => h
  have hbA : ¬ (fun q : Nat => s.heap.size ≤ q) b := Nat.not_le.mpr hbl
  refine lv_aload_n hx hb dL_law_367 rfl (lv_at hl 1 rfl) ?_
  refine lv_aload_n hx hb dL_law_368 rfl (lv_at hl 0 rfl) ?_
  refine lv_iload_n hx hb dL_law_369 rfl (lv_at hl 3 rfl) ?_
  refine lv_iconst (v := nI 1) hx hb dL_law_370 (by decide +kernel) ?_
  refine rv_iadd hx hb dL_law_371 ?_
  refine rs_sld hx hb hX hbl hbA hS (show i + 1 < L by omega) (by omega) dL_law_372 ?_
  refine rs_LR (As := [.int (xs (i + 1))]) (rest := []) ⟨hx, hb, hml, hown, hts⟩ hl.1 (c_count l D cI o ar ac av vx py li a u hrc (xs (i + 1))) (cwV 1 hts gL_law_X1_count rfl rfl rfl (by decide +kernel) ⟨Nat.le_of_ble_eq_true rfl, Nat.le_of_ble_eq_true rfl⟩) hK hPC rfl (st_hC cI o ar ac av vx py li a u) rfl rfl (Nat.le_of_ble_eq_true rfl) dL_law_373 (Nat.le_of_ble_eq_true rfl) (Nat.le_of_ble_eq_true rfl) (fun r1 h1 => ?_)
  refine lv_aload_n hx hb dL_law_376 rfl (lv_at hl 2 rfl) ?_
  refine lv_aload_n hx hb dL_law_377 rfl (lv_at hl 0 rfl) ?_
  refine lv_iload_n hx hb dL_law_378 rfl (lv_at hl 3 rfl) ?_
  refine lv_iconst (v := nI 1) hx hb dL_law_379 (by decide +kernel) ?_
  refine rv_iadd hx hb dL_law_380 ?_
  refine rs_sld hx hb hX hbl hbA hS (show i + 1 < L by omega) (by omega) dL_law_381 ?_
  refine rs_LR (As := [.int (xs (i + 1))]) (rest := [.int r1]) ⟨hx, hb, hml, hown, hts⟩ hl.1 (d_count l D cI o2 mo xx yy a v hrm (xs (i + 1))) (cwV 1 hts gL_law_X2_count rfl rfl rfl (by decide +kernel) ⟨Nat.le_of_ble_eq_true rfl, Nat.le_of_ble_eq_true rfl⟩) hK hPM rfl (st_hM cI o2 mo xx yy a v) rfl rfl (Nat.le_of_ble_eq_true rfl) dL_law_382 (Nat.le_of_ble_eq_true rfl) (Nat.le_of_ble_eq_true rfl) (fun r2 h2 => ?_)
  refine rv_iceq_t (tgt := 390) hx hb dL_law_385 (by decide) (h1.trans h2.symm) ?_
  refine lv_iinc (v := nI (i + 4)) (lv' := [(3, .int (nI (i + 4))), (0, .ref b), (1, .ref o), (2, .ref o2)]) hx hb dL_law_390 hl (k := 3) rfl (rv_inc4 _) (by decide) rfl (fun ls hl => ?_)
  refine lv_goto (tgt := 48) hx hb dL_law_393 (by decide) ?_
  exact nx a u v _ _ _ hrc hrm hPC hPM hD hS (lv_sub hl [1, 2, 3, 0] rfl)
end
section
set_option maxHeartbeats 4000000 in
set_option maxRecDepth 100000 in
theorem law_loop {p : Program} {l : Launch} {e : Env} {s : State} {m : MethodId} {below : List Frame} {meth : Method} {c : Code} {b L : Nat} {xs : Nat → Int32} {D : va_G} {cI : ClassId} {o ar ac av vx py li o2 mo xx yy : Nat} (hL : L ≤ 2051) (C0 : lw_At p s m meth c b L xs) (hK : va_K D vwCl [(cI, .int)] s) : ∀ (n i : Nat), L + 4 ≤ i + n → i ≤ L + 3 → lw_N p l e s m below meth c b D cI o ar ac av vx py li o2 mo xx yy i := by
  obtain ⟨hx, hb, hr, hml, hown, hts0, hX, hbl, hlocks, hgv⟩ := id C0
  have hA : ∀ q : Nat, s.heap.size ≤ q → (fun q : Nat => s.heap.size ≤ q) q := fun _ h => h
  have hbA : ¬ (fun q : Nat => s.heap.size ≤ q) b := Nat.not_le.mpr hbl
  intro n
  induction n with
  | zero =>
    intro i h1 h2
    exact absurd h1 (by omega)
  | succ n ih =>
    intro i h1 h2 a u v H locs ls hrc hrm hPC hPM hD hS hl
    refine lv_iload_n hx hb dL_law_48 rfl (lv_at hl 3 rfl) ?_
    refine lv_aload_n hx hb dL_law_49 rfl (lv_at hl 0 rfl) ?_
    refine va_slen hx hb hX hbl hbA hS dL_law_50 ?_
    refine lv_iconst (v := nI 4) hx hb dL_law_51 (by decide +kernel) ?_
    refine lv_isub hx hb dL_law_52 ?_
    refine lv_icmp_gt (tgt := 396) hx hb dL_law_53 (by decide) (fun hc => ?_) (fun hc => ?_)
    · refine lv_iconst (v := 1) hx hb dL_law_396 (by decide) ?_
      refine va_forget (fun q hq => hS.2.2 q hq) ?_
      exact lw_ret hx hb hr hlocks dL_law_397
    · have hi : i + 4 ≤ L := (lw_len hL h2).2 hc
      have nx := ih (i + 4) (by omega) (by omega)
      refine lv_aload_n hx hb dL_law_56 rfl (lv_at hl 0 rfl) ?_
      refine lv_iload_n hx hb dL_law_57 rfl (lv_at hl 3 rfl) ?_
      refine rs_sld hx hb hX hbl hbA hS (show i < L by omega) (by omega) dL_law_58 ?_
      refine lv_bipush (v := nI 15) hx hb dL_law_59 (by decide +kernel) ?_
      refine lv_iand hx hb dL_law_61 ?_
      obtain ⟨t, ht, et⟩ := pk_andE (xs i) (m := nI 15) 4 (by decide)
      refine rv_top et ?_
      clear et
      by_cases w0 : t = 0
      · subst w0
        refine lv_tableIn (tgt := 124) hx hb dL_law_62 (by decide) (by decide) rfl (by decide) ?_
        exact law_add hL C0 hK hi nx a u v H locs ls hrc hrm hPC hPM hD hS hl
      by_cases w1 : t = 1
      · subst w1
        refine lv_tableIn (tgt := 167) hx hb dL_law_62 (by decide) (by decide) rfl (by decide) ?_
        exact law_build hL C0 hK hi nx a u v H locs ls hrc hrm hPC hPM hD hS hl
      by_cases w2 : t = 2
      · subst w2
        refine lv_tableIn (tgt := 180) hx hb dL_law_62 (by decide) (by decide) rfl (by decide) ?_
        exact law_nnz hL C0 hK hi nx a u v H locs ls hrc hrm hPC hPM hD hS hl
      by_cases w3 : t = 3
      · subst w3
        refine lv_tableIn (tgt := 193) hx hb dL_law_62 (by decide) (by decide) rfl (by decide) ?_
        exact law_at hL C0 hK hi nx a u v H locs ls hrc hrm hPC hPM hD hS hl
      by_cases w4 : t = 4
      · subst w4
        refine lv_tableIn (tgt := 226) hx hb dL_law_62 (by decide) (by decide) rfl (by decide) ?_
        exact law_rowStart hL C0 hK hi nx a u v H locs ls hrc hrm hPC hPM hD hS hl
      by_cases w5 : t = 5
      · subst w5
        refine lv_tableIn (tgt := 249) hx hb dL_law_62 (by decide) (by decide) rfl (by decide) ?_
        exact law_colAt hL C0 hK hi nx a u v H locs ls hrc hrm hPC hPM hD hS hl
      by_cases w6 : t = 6
      · subst w6
        refine lv_tableIn (tgt := 272) hx hb dL_law_62 (by decide) (by decide) rfl (by decide) ?_
        exact law_setX hL C0 hK hi nx a u v H locs ls hrc hrm hPC hPM hD hS hl
      by_cases w7 : t = 7
      · subst w7
        refine lv_tableIn (tgt := 305) hx hb dL_law_62 (by decide) (by decide) rfl (by decide) ?_
        exact law_multiplyVector hL C0 hK hi nx a u v H locs ls hrc hrm hPC hPM hD hS hl
      by_cases w8 : t = 8
      · subst w8
        refine lv_tableIn (tgt := 318) hx hb dL_law_62 (by decide) (by decide) rfl (by decide) ?_
        exact law_y hL C0 hK hi nx a u v H locs ls hrc hrm hPC hPM hD hS hl
      by_cases w9 : t = 9
      · subst w9
        refine lv_tableIn (tgt := 341) hx hb dL_law_62 (by decide) (by decide) rfl (by decide) ?_
        exact law_transpose hL C0 hK hi nx a u v H locs ls hrc hrm hPC hPM hD hS hl
      by_cases w10 : t = 10
      · subst w10
        refine lv_tableIn (tgt := 354) hx hb dL_law_62 (by decide) (by decide) rfl (by decide) ?_
        exact law_square hL C0 hK hi nx a u v H locs ls hrc hrm hPC hPM hD hS hl
      by_cases w11 : t = 11
      · subst w11
        refine lv_tableIn (tgt := 367) hx hb dL_law_62 (by decide) (by decide) rfl (by decide) ?_
        exact law_count hL C0 hK hi nx a u v H locs ls hrc hrm hPC hPM hD hS hl
      refine lv_tableOut (tgt := 390) hx hb dL_law_62 (Or.inr (by rw [nI_toInt (by omega)]; omega)) (by decide) ?_
      refine lv_iinc (v := nI (i + 4)) (lv' := [(3, .int (nI (i + 4))), (0, .ref b), (1, .ref o), (2, .ref o2)]) hx hb dL_law_390 hl (k := 3) rfl (rv_inc4 _) (by decide) rfl (fun ls hl => ?_)
      refine lv_goto (tgt := 48) hx hb dL_law_393 (by decide) ?_
      exact nx a u v _ _ _ hrc hrm hPC hPM hD hS (lv_sub hl [1, 2, 3, 0] rfl)

set_option maxHeartbeats 4000000 in
set_option maxRecDepth 100000 in
/-- THE LAW, from its entry -/
theorem whole_start {p : Program} {e : Env} {s : State} {m : MethodId} {below : List Frame} {meth : Method} {c : Code} (l : Launch) {b L : Nat} {xs : Nat → Int32} (hL : L ≤ 2051) (C0 : lw_At p s m meth c b L xs) : W p l e room_1 s m #[Value.ref b] below meth c s.heap [] 0 0 (lw_Z below #[Value.ref b] s) (entryFrame m ([Value.ref b] : List Value).toArray 4) := by
  obtain ⟨hx, hb, hr, hml, hown, hts0, hX, hbl, hlocks, hgv⟩ := id C0
  have hts := fun w h => hts0 w (wsL_law_in w h)
  have hA : ∀ q : Nat, s.heap.size ≤ q → (fun q : Nat => s.heap.size ≤ q) q := fun _ h => h
  have hbA : ¬ (fun q : Nat => s.heap.size ≤ q) b := Nat.not_le.mpr hbl
  obtain ⟨c0, iS0, hKn0⟩ := u_known (C := RX0) (T := TX0) (N := 3) (n := 3) hts0 inX0 (hts0 (.instantiable RX0 3) (by decide +kernel))
  obtain ⟨c1, iS1, hKn1⟩ := u_known (C := RX1) (T := TX1) (N := 12) (n := 12) hts0 inX1 (hts0 (.instantiable RX1 12) (by decide +kernel))
  obtain ⟨c2, iS2, hKn2⟩ := u_known (C := RX2) (T := TX2) (N := 9) (n := 9) hts0 inX2 (hts0 (.instantiable RX2 9) (by decide +kernel))
  obtain ⟨cI, kA, comp, hA1, hA2, hA3⟩ := Cond.arrayClass_spec (hts0 (.arrayClass .int) (by decide +kernel))
  obtain ⟨D, hKc⟩ : ∃ D : va_G, ∀ (k : Nat) (q : vw_C), vwCl[k]? = some q → u_Kn s q.1 q.2.1 q.2.2 (D.1 k) (D.2 k) := by
    refine ⟨(fun k => if k = 0 then c0 else if k = 1 then c1 else c2, fun k => if k = 0 then iS0 else if k = 1 then iS1 else iS2), ?_⟩
    intro k q hq
    match k, hq with
    | 0, hq => cases hq; exact hKn0
    | 1, hq => cases hq; exact hKn1
    | 2, hq => cases hq; exact hKn2
    | k + 3, hq => simp [vwCl] at hq
  have hK : va_K D vwCl [(cI, .int)] s := ⟨hKc, fun k q h => by
    match k, h with
    | 0, h => cases h; exact ⟨fun n z => ⟨fun k h => (by cases h), kA, hA2, comp, hA3⟩, hA1⟩
    | k + 1, h => simp at h⟩
  have hS : va_S (fun q : Nat => s.heap.size ≤ q) s.heap s.heap [] := va_S.rf
  have hP : va_P D vwCl [] s.heap := fun k q h => by simp at h
  have hD : va_D (fun q : Nat => s.heap.size ≤ q) [] := ⟨fun i j p q h => by simp at h, fun k q h => by simp at h⟩
  have hl := lv_entry ([.ref b]) (n := 4) (Nat.le_of_ble_eq_true rfl)
  rw [lg_entry_eq]
  generalize (lg_sl ([.ref b]) ++ List.replicate (4 - (lg_sl ([.ref b])).length) Slot.unset).toArray = ls at hl ⊢
  have hl : lv_has ls 4 [(0, .ref b)] := hl
  refine va_new (ci := 1) (fs := [.int 0, .int 0, .int 0, .null, .null, .null, .null, .null, .int 0, .null, .null, .null]) (C := RX1) (T := TX1) (N := 12) hx hb hts inlX1 tyX1 tyX1_ok hown (hts (.classLink RL 7 RX1) (by decide +kernel)) (hts (.instantiable RX1 12) (by decide +kernel)) (hts (.initialized RX1) (by decide +kernel)) hK hP hD hS hA rfl (fun j hj => by rcases (show j = 0 ∨ j = 1 ∨ j = 2 ∨ j = 3 ∨ j = 4 ∨ j = 5 ∨ j = 6 ∨ j = 7 ∨ j = 8 ∨ j = 9 ∨ j = 10 ∨ j = 11 by omega) with rfl | rfl | rfl | rfl | rfl | rfl | rfl | rfl | rfl | rfl | rfl | rfl <;> rfl) (Nat.le_of_ble_eq_true rfl) (Nat.le_of_ble_eq_true rfl) dL_law_0 (fun o H hP hD hS => ?_)
  have hP : va_P D vwCl [(o, .inr (1, [.int 0, .int 0, .int 0, .null, .null, .null, .null, .null, .int 0, .null, .null, .null]))] H := hP
  have hD : va_D (fun q : Nat => s.heap.size ≤ q) ([(o, .inr (1, [.int 0, .int 0, .int 0, .null, .null, .null, .null, .null, .int 0, .null, .null, .null]))] ++ []) := hD
  refine W.widen (k := 1) (n := 12) (by omega) (by omega) ?_
  refine lv_dup hx hb dL_law_3 rfl ?_
  refine lv_aload_n hx hb dL_law_4 rfl (lv_at hl 0 rfl) ?_
  refine lv_iconst (v := nI 0) hx hb dL_law_5 (by decide +kernel) ?_
  refine rs_cell (k := 0) (rest := [.ref o, .ref o]) ⟨hx, hb, hml, hown, hts⟩ hl.1 (va_cwS 2 hts gL_law_L_cell rfl rfl rfl (by decide +kernel) ⟨Nat.le_of_ble_eq_true rfl, Nat.le_of_ble_eq_true rfl⟩) hX hbl hbA hS (by omega) (by omega) (Nat.le_of_ble_eq_true rfl) dL_law_6 (Nat.le_of_ble_eq_true rfl) (Nat.le_of_ble_eq_true rfl) ?_
  refine lv_aload_n hx hb dL_law_9 rfl (lv_at hl 0 rfl) ?_
  refine lv_iconst (v := nI 1) hx hb dL_law_10 (by decide +kernel) ?_
  refine rs_cell (k := 1) (rest := [.int (lw_ce xs L 0), .ref o, .ref o]) ⟨hx, hb, hml, hown, hts⟩ hl.1 (va_cwS 2 hts gL_law_L_cell rfl rfl rfl (by decide +kernel) ⟨Nat.le_of_ble_eq_true rfl, Nat.le_of_ble_eq_true rfl⟩) hX hbl hbA hS (by omega) (by omega) (Nat.le_of_ble_eq_true rfl) dL_law_11 (Nat.le_of_ble_eq_true rfl) (Nat.le_of_ble_eq_true rfl) ?_
  refine lv_aload_n hx hb dL_law_14 rfl (lv_at hl 0 rfl) ?_
  refine lv_iconst (v := nI 2) hx hb dL_law_15 (by decide +kernel) ?_
  refine rs_cell (k := 2) (rest := [.int (lw_ce xs L 1), .int (lw_ce xs L 0), .ref o, .ref o]) ⟨hx, hb, hml, hown, hts⟩ hl.1 (va_cwS 2 hts gL_law_L_cell rfl rfl rfl (by decide +kernel) ⟨Nat.le_of_ble_eq_true rfl, Nat.le_of_ble_eq_true rfl⟩) hX hbl hbA hS (by omega) (by omega) (Nat.le_of_ble_eq_true rfl) dL_law_16 (Nat.le_of_ble_eq_true rfl) (Nat.le_of_ble_eq_true rfl) ?_
  refine rs_LN (As := [.int (lw_ce xs L 0), .int (lw_ce xs L 1), .int (lw_ce xs L 2)]) (rest := [.ref o]) ⟨hx, hb, hml, hown, hts⟩ hl.1 (c_init l D cI o (lw_ce xs L 0) (lw_ce xs L 1) (lw_ce xs L 2)) (cwI 3 hts gL_law_X1_init rfl rfl rfl (hts (.initialized RX1) (by decide +kernel)) (hts (.methodLink RL 15 yX1_init) (by decide +kernel)) (hts (.instanceMethod yX1_init) (by decide +kernel)) rfl (by decide +kernel) ⟨Nat.le_of_ble_eq_true rfl, Nat.le_of_ble_eq_true rfl⟩) hK hP (show va_P D vwCl [] H from fun k q h => by simp at h) hD hS hA rfl rfl (Nat.le_of_ble_eq_true rfl) dL_law_19 (Nat.le_of_ble_eq_true rfl) (Nat.le_of_ble_eq_true rfl) (fun x1 H locs hrc hPC hP0 hD hS => ?_)
  obtain ⟨⟨ar, ac, av, vx, py, li⟩, u⟩ := x1
  have hrc : st_rc (st_0 (lw_ce xs L 0) (lw_ce xs L 1) (lw_ce xs L 2)) u := hrc
  have hPC : va_P D vwCl (st_wC cI o ar ac av vx py li (st_0 (lw_ce xs L 0) (lw_ce xs L 1) (lw_ce xs L 2)) u) H := hPC
  have hD : va_D (fun q : Nat => s.heap.size ≤ q) ((st_wC cI o ar ac av vx py li (st_0 (lw_ce xs L 0) (lw_ce xs L 1) (lw_ce xs L 2)) u) ++ []) := hD
  rw [List.append_nil] at hD
  refine W.widen (k := 15) (n := 8012) (by omega) (by omega) ?_
  refine lv_astore_n (lv' := [(1, .ref o), (0, .ref b)]) hx hb dL_law_22 rfl hl (by decide) rfl (fun ls hl => ?_)
  refine va_new (ci := 2) (fs := [.int 0, .int 0, .int 0, .int 0, .null, .null, .null, .null, .null]) (C := RX2) (T := TX2) (N := 9) hx hb hts inlX2 tyX2 tyX2_ok hown (hts (.classLink RL 18 RX2) (by decide +kernel)) (hts (.instantiable RX2 9) (by decide +kernel)) (hts (.initialized RX2) (by decide +kernel)) hK hPC hD hS hA rfl (fun j hj => by rcases (show j = 0 ∨ j = 1 ∨ j = 2 ∨ j = 3 ∨ j = 4 ∨ j = 5 ∨ j = 6 ∨ j = 7 ∨ j = 8 by omega) with rfl | rfl | rfl | rfl | rfl | rfl | rfl | rfl | rfl <;> rfl) (Nat.le_of_ble_eq_true rfl) (Nat.le_of_ble_eq_true rfl) dL_law_23 (fun o2 H hP hD hS => ?_)
  have hPM0 : va_P D vwCl [(o2, .inr (2, [.int 0, .int 0, .int 0, .int 0, .null, .null, .null, .null, .null]))] H := fun k q h => hP ((st_wC cI o ar ac av vx py li (st_0 (lw_ce xs L 0) (lw_ce xs L 1) (lw_ce xs L 2)) u).length + k) q (by rw [List.getElem?_append_right (by omega), Nat.add_sub_cancel_left]; exact h)
  have hPC : va_P D vwCl (st_wC cI o ar ac av vx py li (st_0 (lw_ce xs L 0) (lw_ce xs L 1) (lw_ce xs L 2)) u) H := fun k q h => hP k q (by rw [List.getElem?_append_left (List.getElem?_eq_some_iff.mp h).1]; exact h)
  refine W.widen (k := 16) (n := 8021) (by omega) (by omega) ?_
  refine lv_dup hx hb dL_law_26 rfl ?_
  refine lv_aload_n hx hb dL_law_27 rfl (lv_at hl 1 rfl) ?_
  refine lv_iconst (v := nI 0) hx hb dL_law_28 (by decide +kernel) ?_
  refine rs_cell (k := 0) (rest := [.ref o2, .ref o2]) ⟨hx, hb, hml, hown, hts⟩ hl.1 (va_cwS 2 hts gL_law_L_cell rfl rfl rfl (by decide +kernel) ⟨Nat.le_of_ble_eq_true rfl, Nat.le_of_ble_eq_true rfl⟩) hX hbl hbA hS (by omega) (by omega) (Nat.le_of_ble_eq_true rfl) dL_law_29 (Nat.le_of_ble_eq_true rfl) (Nat.le_of_ble_eq_true rfl) ?_
  refine lv_aload_n hx hb dL_law_32 rfl (lv_at hl 1 rfl) ?_
  refine lv_iconst (v := nI 1) hx hb dL_law_33 (by decide +kernel) ?_
  refine rs_cell (k := 1) (rest := [.int (lw_ce xs L 0), .ref o2, .ref o2]) ⟨hx, hb, hml, hown, hts⟩ hl.1 (va_cwS 2 hts gL_law_L_cell rfl rfl rfl (by decide +kernel) ⟨Nat.le_of_ble_eq_true rfl, Nat.le_of_ble_eq_true rfl⟩) hX hbl hbA hS (by omega) (by omega) (Nat.le_of_ble_eq_true rfl) dL_law_34 (Nat.le_of_ble_eq_true rfl) (Nat.le_of_ble_eq_true rfl) ?_
  refine lv_aload_n hx hb dL_law_37 rfl (lv_at hl 1 rfl) ?_
  refine lv_iconst (v := nI 2) hx hb dL_law_38 (by decide +kernel) ?_
  refine rs_cell (k := 2) (rest := [.int (lw_ce xs L 1), .int (lw_ce xs L 0), .ref o2, .ref o2]) ⟨hx, hb, hml, hown, hts⟩ hl.1 (va_cwS 2 hts gL_law_L_cell rfl rfl rfl (by decide +kernel) ⟨Nat.le_of_ble_eq_true rfl, Nat.le_of_ble_eq_true rfl⟩) hX hbl hbA hS (by omega) (by omega) (Nat.le_of_ble_eq_true rfl) dL_law_39 (Nat.le_of_ble_eq_true rfl) (Nat.le_of_ble_eq_true rfl) ?_
  refine rs_LN (As := [.int (lw_ce xs L 0), .int (lw_ce xs L 1), .int (lw_ce xs L 2)]) (rest := [.ref o2]) ⟨hx, hb, hml, hown, hts⟩ hl.1 (d_init l D cI o2 (lw_ce xs L 0) (lw_ce xs L 1) (lw_ce xs L 2)) (cwI 3 hts gL_law_X2_init rfl rfl rfl (hts (.initialized RX2) (by decide +kernel)) (hts (.methodLink RL 20 yX2_init) (by decide +kernel)) (hts (.instanceMethod yX2_init) (by decide +kernel)) rfl (by decide +kernel) ⟨Nat.le_of_ble_eq_true rfl, Nat.le_of_ble_eq_true rfl⟩) hK hPM0 hPC (rs_swap hD) hS hA rfl rfl (Nat.le_of_ble_eq_true rfl) dL_law_42 (Nat.le_of_ble_eq_true rfl) (Nat.le_of_ble_eq_true rfl) (fun x2 H locs hrm hPM hPC hD hS => ?_)
  obtain ⟨⟨mo, xx, yy⟩, v⟩ := x2
  have hrm : st_rm (st_0 (lw_ce xs L 0) (lw_ce xs L 1) (lw_ce xs L 2)) v := hrm
  have hPM : va_P D vwCl (st_wM cI o2 mo xx yy (st_0 (lw_ce xs L 0) (lw_ce xs L 1) (lw_ce xs L 2)) v) H := hPM
  have hD : va_D (fun q : Nat => s.heap.size ≤ q) ((st_wC cI o ar ac av vx py li (st_0 (lw_ce xs L 0) (lw_ce xs L 1) (lw_ce xs L 2)) u) ++ (st_wM cI o2 mo xx yy (st_0 (lw_ce xs L 0) (lw_ce xs L 1) (lw_ce xs L 2)) v)) := rs_swap hD
  refine W.widen (k := 600000) (n := 7302250) (by omega) (by omega) ?_
  refine lv_astore_n (lv' := [(2, .ref o2), (1, .ref o), (0, .ref b)]) hx hb dL_law_45 rfl hl (by decide) rfl (fun ls hl => ?_)
  refine lv_iconst (v := nI 3) hx hb dL_law_46 (by decide +kernel) ?_
  refine lv_istore_n (lv' := [(3, .int (nI 3)), (2, .ref o2), (1, .ref o), (0, .ref b)]) hx hb dL_law_47 rfl hl (by decide) rfl (fun ls hl => ?_)
  exact law_loop hL C0 hK (L + 1) 3 (by omega) (by omega) (st_0 (lw_ce xs L 0) (lw_ce xs L 1) (lw_ce xs L 2)) u v _ _ _ hrc hrm hPC hPM hD hS (lv_sub hl [3, 2, 1, 0] rfl)
end
section
set_option maxHeartbeats 4000000 in
theorem lw_walk (l : Launch) (b : Addr) (xs : List Int32) : MetFree l x (headSpec (Jvm.Cond.code x code maxLocals ret :: tables_1) room_1) (lw_P b xs) (fun _ _ _ _ _ => True) lw_Q := by
  refine MetFree.of_bodyS (code := code) (maxLocals := maxLocals) (ret := ret) (by decide) ?_ ?_
  · intro args s m h hn
    obtain ⟨meth, c, h1, h2, h3, h4, h5, h6, -, -⟩ := Cond.code_spec hn (atoms_spec (ws := Jvm.Cond.code x code maxLocals ret :: tables_1) h _ List.mem_cons_self)
    exact ⟨meth, c, h1, h2, h3, h4, h5, h6⟩
  · intro p e s m args below meth c s₁ B hml0 hP _
    obtain ⟨rfl, hx, hbd, hgv⟩ := hP
    obtain ⟨scr, harrAt, hlist, hof, hsmall⟩ := hx
    obtain ⟨hcb, hkn, -, -⟩ := State.arrayAt?_spec harrAt
    have hown : s.vm.findClass R_law = some m.cls := findClass_of_methodNamed B.named
    have hts0 : ∀ c ∈ (Jvm.Cond.code x code maxLocals ret :: tables_1), c.before #[Value.ref b] s = true := atoms_spec (ws := Jvm.Cond.code x code maxLocals ret :: tables_1) B.pre
    have hts : ∀ w ∈ lw_tbl, w.before #[Value.ref b] s = true := k2_hts_sels lw_privs (fun w hw => hts0 w (List.mem_cons_of_mem _ hw)) lw_privs_ok
    have hml : c.maxLocals = 4 := B.maxLocals_eq (hts0 _ List.mem_cons_self)
    have X₀ : Stand p l e room_1 s m #[Value.ref b] below meth c s₁ [] 0 0 := Stand.of_body B
    have hh0 : s₁.heap = s.heap := by rw [B.state]; rfl
    have hsz : scr.slots.size = xs.length := by rw [← Array.length_toList, hlist, List.length_map]
    have hval : ∀ j : Nat, j < xs.length → scr.slots[j]? = some (.int (xs.getD j 0)) := fun j hj => by
      rw [← Array.getElem?_toList, hlist]
      simp [hj]
    have hbl : b < s.heap.size := (Array.getElem?_eq_some_iff.mp hcb).1
    have hX : va_X b xs.length (fun j => xs.getD j 0) s s.heap := ⟨scr, hcb, hof, hkn, hsz, hval⟩
    have K : W p l e room_1 s m #[Value.ref b] below meth c s₁.heap [] 0 0 (lw_Z below #[Value.ref b] s) (entryFrame m ([Value.ref b] : List Value).toArray 4) := by
      rw [hh0]
      exact whole_start l hbd ⟨B.exec, B.bytes, B.returns, hml, hown, hts, hX, hbl, B.notSynchronized, hgv⟩
    obtain ⟨t, a1, o, b1, b2, b3⟩ := K s₁ rfl X₀
    exact ⟨t, o, a1, b1, b2, b3⟩
theorem lw_pre_spec {args : Array Value} {s : State} (h : (Jvm.Cond.and given_1 narrow_1).before args s = true) (hr : rest_1_c.before args s = true) : ∃ (b : Addr) (xs : List Int32), lw_P b xs args s := by
  have hs := flat_of_before _ h
  have hq := flat_of_before _ hr
  have hc : (Cond.count 1).before args s = true := hs _ (by decide +kernel)
  have harr : (Cond.arrayOf (.arg 0) .int).before args s = true := hs _ (by decide +kernel)
  have hle : (Cond.le (.length (.arg 0)) (.int 2051)).before args s = true := hs _ (by decide +kernel)
  have hlen : (Cond.isInt (.length (.arg 0))).before args s = true := hq _ (by decide +kernel)
  have hall : (Cond.all (.arg 0) (.isInt (.elem (.arg 0) (.index 0)))).before args s = true := hq _ (by decide +kernel)
  obtain ⟨b, xs, hb, hx⟩ := State.ints_of_pre rfl harr hlen hall
  have hsm : xs.length < 2 ^ 31 := hx.choose_spec.2.2.2
  have hev : (Term.length (.arg 0)).eval args s none [] s = some (.int xs.length.toInt32) := hx.length_eval hb
  have hv := Cond.le_ints hev (show (Term.int 2051).eval args s none [] s = some (.int 2051) from rfl)
  have hd : xs.length.toInt32 ≤ 2051 := by
    simpa [Cond.before, Cond.holds, hv] using hle
  have hN : xs.length ≤ 2051 := (Int32.ofNat_le_ofNat hsm (by decide)).mp (show Int32.ofNat xs.length ≤ Int32.ofNat 2051 from hd)
  exact ⟨b, xs, Cond.one_arg hc (show args[0]? = some (.ref b) from hb), hx, hN, h⟩
theorem lw_comes (l : Launch) : Comes l x (Jvm.Cond.code x code maxLocals ret :: tables_1) room_1 (fun tb e args s => Calls_1 tb e args s ∧ rest_1 tb e args s ∧ Pre_1 tb e args s)
    (fun _ _ args s o t => lw_Q args s o t) := by
  intro p e ha hc hk s m args below hf hfit hheap happ hpre
  obtain ⟨b, xs, hP⟩ := lw_pre_spec hpre.2.2 hpre.2.1
  obtain ⟨k, o, h1, h2, h3, hQ⟩ := lw_walk l b xs p e ha hc hk s m args below hf ((Spec.applies_iff_loose hf).mp happ).1 hP trivial
  exact ⟨k, o, h1, h2, h3, hQ⟩
theorem lw_frame {s t : State} {o : Outcome} {args : Array Value} (h : Framed s o t [] 600000 7302250) :
    Framed s o t (fieldLocs frame_1_writes args s ++ arrayLocs frame_1_arrays args s ++ staticLocs frame_1_statics s) 600000 7302250 := h
theorem lw_limb (L : Cond) (hL : ∀ (args : Array Value) (s t : State), L.after args s (.returned (some (.int 1))) t = true) :
    ArmFor flags0 classFile x code maxLocals ret World_1 tables_1 room_1 Calls_1 rest_1 Pre_1
      (fun tb e a s o t => postC L tb e a s o t ∧ Framed s o t (fieldLocs frame_1_writes a s ++ arrayLocs frame_1_arrays a s ++ staticLocs frame_1_statics s) 600000 7302250) := by
  intro l _ _ _ p e ha hc hk s m args below hf hfit hheap happ hpre
  obtain ⟨k, o, h1, h2, h3, rfl, hF⟩ := lw_comes l p e ha hc hk s m args below hf hfit hheap happ hpre
  exact ⟨k, _, h1, h2, h3, hL args s _, lw_frame hF⟩
theorem i_vc : Claimed_1_1 ∧ Claimed_1_2 := ⟨lw_limb limb_1_1 (fun args s t => by simp [limb_1_1, Cond.after, Cond.holds, Cond.value]), lw_limb limb_1_2 (fun args s t => Cond.after_iff.mpr (by
  first | (rw [show limb_1_2 = Cond.eq .result (.int 1) from rfl, Cond.eq_ints (x := 1) (y := 1) rfl rfl]; simp; done) | (simp [limb_1_2, Cond.value, Term.eval]; done)))⟩
end
