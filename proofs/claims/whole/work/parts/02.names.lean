-- names, words of the tables by their places (printed by wip/whole/gen/names.py)
def TT : List Cond := lw_tbl.filter goodWord
theorem tt_all {w : Cond} (h : w ∈ TT) : w ∈ lw_tbl := (List.mem_filter.mp h).1
theorem tt_good {w : Cond} (h : w ∈ TT) : goodWord w = true := (List.mem_filter.mp h).2
theorem tt_t {w : Cond} (h : w ∈ tables_1) (g : goodWord w = true) : w ∈ TT := List.mem_filter.mpr ⟨List.mem_append_right _ h, g⟩
theorem tt_1 {w : Cond} (i : Nat) (h : tables_1_1[i]? = some w) (g : goodWord w = true) : w ∈ TT := tt_t (List.mem_append_left _ (List.mem_of_getElem? h)) g
theorem tt_2 {w : Cond} (i : Nat) (h : tables_1_2[i]? = some w) (g : goodWord w = true) : w ∈ TT := tt_t (List.mem_append_right _ (List.mem_append_left _ (List.mem_of_getElem? h))) g
theorem tt_3 {w : Cond} (i : Nat) (h : tables_1_3[i]? = some w) (g : goodWord w = true) : w ∈ TT := tt_t (List.mem_append_right _ (List.mem_append_right _ (List.mem_append_left _ (List.mem_of_getElem? h)))) g
theorem tt_4 {w : Cond} (i : Nat) (h : tables_1_4[i]? = some w) (g : goodWord w = true) : w ∈ TT := tt_t (List.mem_append_right _ (List.mem_append_right _ (List.mem_append_right _ (List.mem_of_getElem? h)))) g
theorem tt_p {w : Cond} (i : Nat) (h : (k2_sels lw_privs)[i]? = some w) (g : goodWord w = true) : w ∈ TT := List.mem_filter.mpr ⟨List.mem_append_left _ (List.mem_of_getElem? h), g⟩
theorem tt_n : ∀ w ∈ ([] : List Cond), w ∈ TT := fun _ h => nomatch h
theorem tt_c {c : Cond} {l : List Cond} (h : c ∈ TT) (t : ∀ w ∈ l, w ∈ TT) : ∀ w ∈ c :: l, w ∈ TT := fun w hw => (List.mem_cons.mp hw).elim (fun e => by rw [e]; exact h) (t w)

def R_Key : String := "SnapshotStore$Key"
def F_Key : u_T := fun k => match k with
  | 0 => ("SnapshotStore$Key", "name", "I", true)
  | 1 => ("SnapshotStore$Key", "next", "LSnapshotStore$Key;", false)
  | _ => ("SnapshotStore$Key", "newest", "LSnapshotStore$Version;", false)
def t_Key : Nat → FieldType := fun k => match k with
  | 0 => .int
  | 1 => .object "SnapshotStore$Key"
  | _ => .object "SnapshotStore$Version"
theorem n_Key : ∀ a, a < 3 → ∀ b, b < 3 → a ≠ b → (F_Key a).2.1 ≠ (F_Key b).2.1 := by decide +kernel
theorem t_Key_ok : ∀ k, k < 3 → parseFieldDescriptor (F_Key k).2.2.1 = some (t_Key k) := by decide +kernel
def R_Place : String := "SnapshotStore$Place"
def F_Place : u_T := fun k => match k with
  | 0 => ("SnapshotStore$Place", "number", "I", true)
  | 1 => ("SnapshotStore$Place", "latest", "LSnapshotStore$Write;", true)
  | _ => ("SnapshotStore$Place", "earlier", "LSnapshotStore$Place;", true)
def t_Place : Nat → FieldType := fun k => match k with
  | 0 => .int
  | 1 => .object "SnapshotStore$Write"
  | _ => .object "SnapshotStore$Place"
theorem n_Place : ∀ a, a < 3 → ∀ b, b < 3 → a ≠ b → (F_Place a).2.1 ≠ (F_Place b).2.1 := by decide +kernel
theorem t_Place_ok : ∀ k, k < 3 → parseFieldDescriptor (F_Place k).2.2.1 = some (t_Place k) := by decide +kernel
def R_Range : String := "SnapshotStore$Range"
def F_Range : u_T := fun k => match k with
  | 0 => ("SnapshotStore$Range", "low", "I", true)
  | 1 => ("SnapshotStore$Range", "high", "I", true)
  | _ => ("SnapshotStore$Range", "earlier", "LSnapshotStore$Range;", true)
def t_Range : Nat → FieldType := fun k => match k with
  | 0 => .int
  | 1 => .int
  | _ => .object "SnapshotStore$Range"
theorem n_Range : ∀ a, a < 3 → ∀ b, b < 3 → a ≠ b → (F_Range a).2.1 ≠ (F_Range b).2.1 := by decide +kernel
theorem t_Range_ok : ∀ k, k < 3 → parseFieldDescriptor (F_Range k).2.2.1 = some (t_Range k) := by decide +kernel
def R_Tx : String := "SnapshotStore$Transaction"
def F_Tx : u_T := fun k => match k with
  | 0 => ("SnapshotStore$Transaction", "level", "I", true)
  | 1 => ("SnapshotStore$Transaction", "start", "I", true)
  | 2 => ("SnapshotStore$Transaction", "state", "I", false)
  | 3 => ("SnapshotStore$Transaction", "stamp", "I", false)
  | 4 => ("SnapshotStore$Transaction", "hadAfter", "Z", false)
  | 5 => ("SnapshotStore$Transaction", "latest", "LSnapshotStore$Write;", false)
  | 6 => ("SnapshotStore$Transaction", "ranges", "LSnapshotStore$Range;", false)
  | _ => ("SnapshotStore$Transaction", "place", "LSnapshotStore$Place;", false)
def t_Tx : Nat → FieldType := fun k => match k with
  | 0 => .int
  | 1 => .int
  | 2 => .int
  | 3 => .int
  | 4 => .boolean
  | 5 => .object "SnapshotStore$Write"
  | 6 => .object "SnapshotStore$Range"
  | _ => .object "SnapshotStore$Place"
theorem n_Tx : ∀ a, a < 8 → ∀ b, b < 8 → a ≠ b → (F_Tx a).2.1 ≠ (F_Tx b).2.1 := by decide +kernel
theorem t_Tx_ok : ∀ k, k < 8 → parseFieldDescriptor (F_Tx k).2.2.1 = some (t_Tx k) := by decide +kernel
def R_Ver : String := "SnapshotStore$Version"
def F_Ver : u_T := fun k => match k with
  | 0 => ("SnapshotStore$Version", "stamp", "I", true)
  | 1 => ("SnapshotStore$Version", "content", "J", true)
  | _ => ("SnapshotStore$Version", "older", "LSnapshotStore$Version;", false)
def t_Ver : Nat → FieldType := fun k => match k with
  | 0 => .int
  | 1 => .long
  | _ => .object "SnapshotStore$Version"
theorem n_Ver : ∀ a, a < 3 → ∀ b, b < 3 → a ≠ b → (F_Ver a).2.1 ≠ (F_Ver b).2.1 := by decide +kernel
theorem t_Ver_ok : ∀ k, k < 3 → parseFieldDescriptor (F_Ver k).2.2.1 = some (t_Ver k) := by decide +kernel
def R_Wr : String := "SnapshotStore$Write"
def F_Wr : u_T := fun k => match k with
  | 0 => ("SnapshotStore$Write", "name", "I", true)
  | 1 => ("SnapshotStore$Write", "content", "J", true)
  | 2 => ("SnapshotStore$Write", "keys", "I", true)
  | _ => ("SnapshotStore$Write", "earlier", "LSnapshotStore$Write;", true)
def t_Wr : Nat → FieldType := fun k => match k with
  | 0 => .int
  | 1 => .long
  | 2 => .int
  | _ => .object "SnapshotStore$Write"
theorem n_Wr : ∀ a, a < 4 → ∀ b, b < 4 → a ≠ b → (F_Wr a).2.1 ≠ (F_Wr b).2.1 := by decide +kernel
theorem t_Wr_ok : ∀ k, k < 4 → parseFieldDescriptor (F_Wr k).2.2.1 = some (t_Wr k) := by decide +kernel
def R_S : String := "SnapshotStore"
def F_S : u_T := fun k => match k with
  | 0 => ("SnapshotStore", "transactions", "[LSnapshotStore$Transaction;", true)
  | 1 => ("SnapshotStore", "begun", "I", false)
  | 2 => ("SnapshotStore", "clock", "I", false)
  | 3 => ("SnapshotStore", "safeStamp", "I", false)
  | 4 => ("SnapshotStore", "notes", "I", false)
  | _ => ("SnapshotStore", "least", "LSnapshotStore$Key;", false)
def t_S : Nat → FieldType := fun k => match k with
  | 0 => .array (.object "SnapshotStore$Transaction")
  | 1 => .int
  | 2 => .int
  | 3 => .int
  | 4 => .int
  | _ => .object "SnapshotStore$Key"
theorem n_S : ∀ a, a < 6 → ∀ b, b < 6 → a ≠ b → (F_S a).2.1 ≠ (F_S b).2.1 := by decide +kernel
theorem t_S_ok : ∀ k, k < 6 → parseFieldDescriptor (F_S k).2.2.1 = some (t_S k) := by decide +kernel
def R_M : String := "SnapshotStoreModel"
def F_M : u_T := fun k => match k with
  | 0 => ("SnapshotStoreModel", "code", "I", false)
  | 1 => ("SnapshotStoreModel", "clock", "I", false)
  | 2 => ("SnapshotStoreModel", "safe", "I", false)
  | 3 => ("SnapshotStoreModel", "transactions", "I", false)
  | 4 => ("SnapshotStoreModel", "serial", "[Z", true)
  | 5 => ("SnapshotStoreModel", "starts", "[I", true)
  | 6 => ("SnapshotStoreModel", "stamps", "[I", true)
  | 7 => ("SnapshotStoreModel", "states", "[I", true)
  | 8 => ("SnapshotStoreModel", "hadAfter", "[Z", true)
  | 9 => ("SnapshotStoreModel", "writes", "[I", true)
  | 10 => ("SnapshotStoreModel", "writeKey", "[I", true)
  | 11 => ("SnapshotStoreModel", "writeValue", "[I", true)
  | 12 => ("SnapshotStoreModel", "writeErased", "[Z", true)
  | 13 => ("SnapshotStoreModel", "places", "[I", true)
  | 14 => ("SnapshotStoreModel", "placeAt", "[I", true)
  | 15 => ("SnapshotStoreModel", "reads", "[I", true)
  | 16 => ("SnapshotStoreModel", "readLow", "[I", true)
  | 17 => ("SnapshotStoreModel", "readHigh", "[I", true)
  | 18 => ("SnapshotStoreModel", "versions", "I", false)
  | 19 => ("SnapshotStoreModel", "versionKey", "[I", true)
  | 20 => ("SnapshotStoreModel", "versionStamp", "[I", true)
  | 21 => ("SnapshotStoreModel", "versionValue", "[I", true)
  | 22 => ("SnapshotStoreModel", "versionErased", "[Z", true)
  | 23 => ("SnapshotStoreModel", "goes", "[Z", true)
  | 24 => ("SnapshotStoreModel", "seen", "Z", false)
  | _ => ("SnapshotStoreModel", "seenValue", "I", false)
def t_M : Nat → FieldType := fun k => match k with
  | 0 => .int
  | 1 => .int
  | 2 => .int
  | 3 => .int
  | 4 => .array .boolean
  | 5 => .array .int
  | 6 => .array .int
  | 7 => .array .int
  | 8 => .array .boolean
  | 9 => .array .int
  | 10 => .array .int
  | 11 => .array .int
  | 12 => .array .boolean
  | 13 => .array .int
  | 14 => .array .int
  | 15 => .array .int
  | 16 => .array .int
  | 17 => .array .int
  | 18 => .int
  | 19 => .array .int
  | 20 => .array .int
  | 21 => .array .int
  | 22 => .array .boolean
  | 23 => .array .boolean
  | 24 => .boolean
  | _ => .int
theorem n_M : ∀ a, a < 26 → ∀ b, b < 26 → a ≠ b → (F_M a).2.1 ≠ (F_M b).2.1 := by decide +kernel
theorem t_M_ok : ∀ k, k < 26 → parseFieldDescriptor (F_M k).2.2.1 = some (t_M k) := by decide +kernel
def R_L : String := "SnapshotStoreLaw"
abbrev CL : List vw_C := [(R_Key, F_Key, 3), (R_Place, F_Place, 3), (R_Range, F_Range, 3), (R_Tx, F_Tx, 8), (R_Ver, F_Ver, 3), (R_Wr, F_Wr, 4), (R_S, F_S, 6), (R_M, F_M, 26)]
theorem k_0 : (Jvm.Cond.initialized "SnapshotStoreLaw") ∈ TT := tt_1 0 rfl rfl
theorem k_1 : (Jvm.Cond.initialized "SnapshotStore") ∈ TT := tt_1 1 rfl rfl
theorem k_2 : (Jvm.Cond.initialized "SnapshotStoreModel") ∈ TT := tt_1 2 rfl rfl
theorem k_3 : (Jvm.Cond.initialized "java/lang/Throwable") ∈ TT := tt_1 3 rfl rfl
theorem k_4 : (Jvm.Cond.initialized "java/lang/Exception") ∈ TT := tt_1 4 rfl rfl
theorem k_5 : (Jvm.Cond.initialized "java/lang/RuntimeException") ∈ TT := tt_1 5 rfl rfl
theorem k_6 : (Jvm.Cond.initialized "java/lang/IllegalArgumentException") ∈ TT := tt_1 6 rfl rfl
theorem k_7 : (Jvm.Cond.initialized "java/lang/IllegalStateException") ∈ TT := tt_1 7 rfl rfl
theorem k_8 : (Jvm.Cond.initialized "SnapshotStore$Transaction") ∈ TT := tt_1 8 rfl rfl
theorem k_9 : (Jvm.Cond.initialized "java/lang/IndexOutOfBoundsException") ∈ TT := tt_1 9 rfl rfl
theorem k_10 : (Jvm.Cond.initialized "SnapshotStore$Range") ∈ TT := tt_1 10 rfl rfl
theorem k_11 : (Jvm.Cond.initialized "SnapshotStore$Key") ∈ TT := tt_1 11 rfl rfl
theorem k_12 : (Jvm.Cond.initialized "SnapshotStore$Write") ∈ TT := tt_1 12 rfl rfl
theorem k_13 : (Jvm.Cond.initialized "SnapshotStore$Place") ∈ TT := tt_1 13 rfl rfl
theorem k_14 : (Jvm.Cond.initialized "SnapshotStore$Version") ∈ TT := tt_1 14 rfl rfl
theorem k_15 : (Jvm.Cond.classLink "SnapshotStoreLaw" (8 : Nat) "SnapshotStore") ∈ TT := tt_1 15 rfl rfl
theorem k_16 : (Jvm.Cond.instantiable "SnapshotStore" (6 : Nat)) ∈ TT := tt_1 16 rfl rfl
theorem k_17 : (Jvm.Cond.methodLink "SnapshotStoreLaw" (56 : Nat) ({ cls := "SnapshotStore", name := "<init>", desc := "()V" } : Jvm.MethodName)) ∈ TT := tt_1 17 rfl rfl
theorem k_18 : (Jvm.Cond.instanceMethod ({ cls := "SnapshotStore", name := "<init>", desc := "()V" } : Jvm.MethodName)) ∈ TT := tt_1 18 rfl rfl
theorem k_19 : (Jvm.Cond.code ({ cls := "SnapshotStore", name := "<init>", desc := "()V" } : Jvm.MethodName) prog_1_method_1_code (1 : Nat) (Option.none : Option Jvm.ClassFile.FieldType)) ∈ TT := tt_1 19 rfl rfl
theorem k_20 : (Jvm.Cond.methodLink "SnapshotStore" (1 : Nat) ({ cls := "java/lang/Object", name := "<init>", desc := "()V" } : Jvm.MethodName)) ∈ TT := tt_1 20 rfl rfl
theorem k_21 : (Jvm.Cond.instanceMethod ({ cls := "java/lang/Object", name := "<init>", desc := "()V" } : Jvm.MethodName)) ∈ TT := tt_1 21 rfl rfl
theorem k_22 : (Jvm.Cond.code ({ cls := "java/lang/Object", name := "<init>", desc := "()V" } : Jvm.MethodName) object_method_1_code (1 : Nat) (Option.none : Option Jvm.ClassFile.FieldType)) ∈ TT := tt_1 22 rfl rfl
theorem k_23 : (Jvm.Cond.classLink "SnapshotStore" (9 : Nat) "SnapshotStore$Transaction") ∈ TT := tt_1 23 rfl rfl
theorem k_25 : (Jvm.Cond.fieldLink "SnapshotStore" (11 : Nat) "SnapshotStore" "transactions" "[LSnapshotStore$Transaction;") ∈ TT := tt_1 25 rfl rfl
theorem k_26 : (Jvm.Cond.fieldLink "SnapshotStore" (22 : Nat) "SnapshotStore" "begun" "I") ∈ TT := tt_1 26 rfl rfl
theorem k_27 : (Jvm.Cond.fieldLink "SnapshotStore" (31 : Nat) "SnapshotStore" "clock" "I") ∈ TT := tt_1 27 rfl rfl
theorem k_28 : (Jvm.Cond.fieldLink "SnapshotStore" (149 : Nat) "SnapshotStore" "safeStamp" "I") ∈ TT := tt_1 28 rfl rfl
theorem k_29 : (Jvm.Cond.fieldLink "SnapshotStore" (201 : Nat) "SnapshotStore" "notes" "I") ∈ TT := tt_1 29 rfl rfl
theorem k_30 : (Jvm.Cond.fieldLink "SnapshotStore" (63 : Nat) "SnapshotStore" "least" "LSnapshotStore$Key;") ∈ TT := tt_1 30 rfl rfl
theorem k_31 : (Jvm.Cond.laysFinal "SnapshotStore" "SnapshotStore" "transactions" "[LSnapshotStore$Transaction;") ∈ TT := tt_1 31 rfl rfl
theorem k_33 : (Jvm.Cond.lays "SnapshotStore" "SnapshotStore" "begun" "I") ∈ TT := tt_1 33 rfl rfl
theorem k_35 : (Jvm.Cond.lays "SnapshotStore" "SnapshotStore" "clock" "I") ∈ TT := tt_1 35 rfl rfl
theorem k_37 : (Jvm.Cond.lays "SnapshotStore" "SnapshotStore" "safeStamp" "I") ∈ TT := tt_1 37 rfl rfl
theorem k_39 : (Jvm.Cond.lays "SnapshotStore" "SnapshotStore" "notes" "I") ∈ TT := tt_1 39 rfl rfl
theorem k_41 : (Jvm.Cond.lays "SnapshotStore" "SnapshotStore" "least" "LSnapshotStore$Key;") ∈ TT := tt_1 41 rfl rfl
theorem k_44 : (Jvm.Cond.methodLink "SnapshotStoreLaw" (102 : Nat) ({ cls := "SnapshotStore", name := "vacuum", desc := "()I" } : Jvm.MethodName)) ∈ TT := tt_1 44 rfl rfl
theorem k_45 : (Jvm.Cond.instanceMethod ({ cls := "SnapshotStore", name := "vacuum", desc := "()I" } : Jvm.MethodName)) ∈ TT := tt_1 45 rfl rfl
theorem k_46 : (Jvm.Cond.selects "SnapshotStore" ({ cls := "SnapshotStore", name := "vacuum", desc := "()I" } : Jvm.MethodName) ({ cls := "SnapshotStore", name := "vacuum", desc := "()I" } : Jvm.MethodName)) ∈ TT := tt_1 46 rfl rfl
theorem k_47 : (Jvm.Cond.code ({ cls := "SnapshotStore", name := "vacuum", desc := "()I" } : Jvm.MethodName) prog_1_method_13_code (3 : Nat) (Option.some Jvm.ClassFile.FieldType.int)) ∈ TT := tt_1 47 rfl rfl
theorem k_48 : (Jvm.Cond.methodLink "SnapshotStore" (142 : Nat) ({ cls := "SnapshotStore", name := "dropUnseen", desc := "(LSnapshotStore$Key;)I" } : Jvm.MethodName)) ∈ TT := tt_1 48 rfl rfl
theorem k_50 : (Jvm.Cond.instanceMethod ({ cls := "SnapshotStore", name := "dropUnseen", desc := "(LSnapshotStore$Key;)I" } : Jvm.MethodName)) ∈ TT := tt_1 50 rfl rfl
theorem k_51 : (Jvm.Cond.code ({ cls := "SnapshotStore", name := "dropUnseen", desc := "(LSnapshotStore$Key;)I" } : Jvm.MethodName) prog_1_method_36_code (6 : Nat) (Option.some Jvm.ClassFile.FieldType.int)) ∈ TT := tt_1 51 rfl rfl
theorem k_52 : (Jvm.Cond.constant "SnapshotStore" (83 : Nat) (2147483647 : Int32)) ∈ TT := tt_1 52 rfl rfl
theorem k_53 : (Jvm.Cond.methodLink "SnapshotStore" (257 : Nat) ({ cls := "SnapshotStore", name := "isLookedAt", desc := "(II)Z" } : Jvm.MethodName)) ∈ TT := tt_1 53 rfl rfl
theorem k_55 : (Jvm.Cond.instanceMethod ({ cls := "SnapshotStore", name := "isLookedAt", desc := "(II)Z" } : Jvm.MethodName)) ∈ TT := tt_1 55 rfl rfl
theorem k_56 : (Jvm.Cond.code ({ cls := "SnapshotStore", name := "isLookedAt", desc := "(II)Z" } : Jvm.MethodName) prog_1_method_38_code (7 : Nat) (Option.some Jvm.ClassFile.FieldType.boolean)) ∈ TT := tt_1 56 rfl rfl
theorem k_57 : (Jvm.Cond.methodLink "SnapshotStore" (261 : Nat) ({ cls := "SnapshotStore$Key", name := "unlink", desc := "(LSnapshotStore$Version;LSnapshotStore$Version;)V" } : Jvm.MethodName)) ∈ TT := tt_1 57 rfl rfl
theorem k_58 : (Jvm.Cond.instanceMethod ({ cls := "SnapshotStore$Key", name := "unlink", desc := "(LSnapshotStore$Version;LSnapshotStore$Version;)V" } : Jvm.MethodName)) ∈ TT := tt_1 58 rfl rfl
theorem k_59 : (Jvm.Cond.selects "SnapshotStore$Key" ({ cls := "SnapshotStore$Key", name := "unlink", desc := "(LSnapshotStore$Version;LSnapshotStore$Version;)V" } : Jvm.MethodName) ({ cls := "SnapshotStore$Key", name := "unlink", desc := "(LSnapshotStore$Version;LSnapshotStore$Version;)V" } : Jvm.MethodName)) ∈ TT := tt_1 59 rfl rfl
theorem k_60 : (Jvm.Cond.code ({ cls := "SnapshotStore$Key", name := "unlink", desc := "(LSnapshotStore$Version;LSnapshotStore$Version;)V" } : Jvm.MethodName) prog_2_method_6_code (3 : Nat) (Option.none : Option Jvm.ClassFile.FieldType)) ∈ TT := tt_1 60 rfl rfl
theorem k_61 : (Jvm.Cond.methodLink "SnapshotStore" (146 : Nat) ({ cls := "SnapshotStore", name := "dropOldestErased", desc := "(LSnapshotStore$Key;)I" } : Jvm.MethodName)) ∈ TT := tt_1 61 rfl rfl
theorem k_63 : (Jvm.Cond.instanceMethod ({ cls := "SnapshotStore", name := "dropOldestErased", desc := "(LSnapshotStore$Key;)I" } : Jvm.MethodName)) ∈ TT := tt_1 63 rfl rfl
theorem k_64 : (Jvm.Cond.code ({ cls := "SnapshotStore", name := "dropOldestErased", desc := "(LSnapshotStore$Key;)I" } : Jvm.MethodName) prog_1_method_37_code (4 : Nat) (Option.some Jvm.ClassFile.FieldType.int)) ∈ TT := tt_1 64 rfl rfl
theorem k_65 : (Jvm.Cond.constantLong "SnapshotStore" (57 : Nat) (4294967296 : Int64)) ∈ TT := tt_1 65 rfl rfl
theorem k_66 : (Jvm.Cond.methodLink "SnapshotStoreLaw" (106 : Nat) ({ cls := "SnapshotStore", name := "flush", desc := "()I" } : Jvm.MethodName)) ∈ TT := tt_1 66 rfl rfl
theorem k_67 : (Jvm.Cond.instanceMethod ({ cls := "SnapshotStore", name := "flush", desc := "()I" } : Jvm.MethodName)) ∈ TT := tt_1 67 rfl rfl
theorem k_68 : (Jvm.Cond.selects "SnapshotStore" ({ cls := "SnapshotStore", name := "flush", desc := "()I" } : Jvm.MethodName) ({ cls := "SnapshotStore", name := "flush", desc := "()I" } : Jvm.MethodName)) ∈ TT := tt_1 68 rfl rfl
theorem k_69 : (Jvm.Cond.code ({ cls := "SnapshotStore", name := "flush", desc := "()I" } : Jvm.MethodName) prog_1_method_14_code (2 : Nat) (Option.some Jvm.ClassFile.FieldType.int)) ∈ TT := tt_1 69 rfl rfl
theorem k_70 : (Jvm.Cond.methodLink "SnapshotStoreLaw" (110 : Nat) ({ cls := "SnapshotStore", name := "crash", desc := "()I" } : Jvm.MethodName)) ∈ TT := tt_1 70 rfl rfl
theorem k_71 : (Jvm.Cond.instanceMethod ({ cls := "SnapshotStore", name := "crash", desc := "()I" } : Jvm.MethodName)) ∈ TT := tt_1 71 rfl rfl
theorem k_72 : (Jvm.Cond.selects "SnapshotStore" ({ cls := "SnapshotStore", name := "crash", desc := "()I" } : Jvm.MethodName) ({ cls := "SnapshotStore", name := "crash", desc := "()I" } : Jvm.MethodName)) ∈ TT := tt_1 72 rfl rfl
theorem k_73 : (Jvm.Cond.code ({ cls := "SnapshotStore", name := "crash", desc := "()I" } : Jvm.MethodName) prog_1_method_15_code (6 : Nat) (Option.some Jvm.ClassFile.FieldType.int)) ∈ TT := tt_1 73 rfl rfl
theorem k_74 : (Jvm.Cond.methodLink "SnapshotStore" (152 : Nat) ({ cls := "SnapshotStore$Key", name := "versionAt", desc := "(I)LSnapshotStore$Version;" } : Jvm.MethodName)) ∈ TT := tt_1 74 rfl rfl
theorem k_75 : (Jvm.Cond.instanceMethod ({ cls := "SnapshotStore$Key", name := "versionAt", desc := "(I)LSnapshotStore$Version;" } : Jvm.MethodName)) ∈ TT := tt_1 75 rfl rfl
theorem k_76 : (Jvm.Cond.selects "SnapshotStore$Key" ({ cls := "SnapshotStore$Key", name := "versionAt", desc := "(I)LSnapshotStore$Version;" } : Jvm.MethodName) ({ cls := "SnapshotStore$Key", name := "versionAt", desc := "(I)LSnapshotStore$Version;" } : Jvm.MethodName)) ∈ TT := tt_1 76 rfl rfl
theorem k_77 : (Jvm.Cond.code ({ cls := "SnapshotStore$Key", name := "versionAt", desc := "(I)LSnapshotStore$Version;" } : Jvm.MethodName) prog_2_method_2_code (3 : Nat) (Option.some (Jvm.ClassFile.FieldType.object "SnapshotStore$Version"))) ∈ TT := tt_1 77 rfl rfl
theorem k_78 : (Jvm.Cond.methodLink "SnapshotStore" (117 : Nat) ({ cls := "SnapshotStore$Transaction", name := "end", desc := "(I)V" } : Jvm.MethodName)) ∈ TT := tt_1 78 rfl rfl
theorem k_79 : (Jvm.Cond.instanceMethod ({ cls := "SnapshotStore$Transaction", name := "end", desc := "(I)V" } : Jvm.MethodName)) ∈ TT := tt_1 79 rfl rfl
theorem k_80 : (Jvm.Cond.selects "SnapshotStore$Transaction" ({ cls := "SnapshotStore$Transaction", name := "end", desc := "(I)V" } : Jvm.MethodName) ({ cls := "SnapshotStore$Transaction", name := "end", desc := "(I)V" } : Jvm.MethodName)) ∈ TT := tt_1 80 rfl rfl
theorem k_81 : (Jvm.Cond.code ({ cls := "SnapshotStore$Transaction", name := "end", desc := "(I)V" } : Jvm.MethodName) prog_5_method_2_code (2 : Nat) (Option.none : Option Jvm.ClassFile.FieldType)) ∈ TT := tt_1 81 rfl rfl
theorem k_82 : (Jvm.Cond.methodLink "SnapshotStoreLaw" (117 : Nat) ({ cls := "SnapshotStore", name := "at", desc := "(IZ)I" } : Jvm.MethodName)) ∈ TT := tt_1 82 rfl rfl
theorem k_83 : (Jvm.Cond.instanceMethod ({ cls := "SnapshotStore", name := "at", desc := "(IZ)I" } : Jvm.MethodName)) ∈ TT := tt_1 83 rfl rfl
theorem k_84 : (Jvm.Cond.selects "SnapshotStore" ({ cls := "SnapshotStore", name := "at", desc := "(IZ)I" } : Jvm.MethodName) ({ cls := "SnapshotStore", name := "at", desc := "(IZ)I" } : Jvm.MethodName)) ∈ TT := tt_1 84 rfl rfl
theorem k_85 : (Jvm.Cond.code ({ cls := "SnapshotStore", name := "at", desc := "(IZ)I" } : Jvm.MethodName) prog_1_method_17_code (4 : Nat) (Option.some Jvm.ClassFile.FieldType.int)) ∈ TT := tt_1 85 rfl rfl
theorem k_86 : (Jvm.Cond.methodLink "SnapshotStore" (45 : Nat) ({ cls := "SnapshotStore", name := "keyNamed", desc := "(I)LSnapshotStore$Key;" } : Jvm.MethodName)) ∈ TT := tt_1 86 rfl rfl
theorem k_88 : (Jvm.Cond.instanceMethod ({ cls := "SnapshotStore", name := "keyNamed", desc := "(I)LSnapshotStore$Key;" } : Jvm.MethodName)) ∈ TT := tt_1 88 rfl rfl
theorem k_89 : (Jvm.Cond.code ({ cls := "SnapshotStore", name := "keyNamed", desc := "(I)LSnapshotStore$Key;" } : Jvm.MethodName) prog_1_method_26_code (3 : Nat) (Option.some (Jvm.ClassFile.FieldType.object "SnapshotStore$Key"))) ∈ TT := tt_1 89 rfl rfl
theorem k_90 : (Jvm.Cond.methodLink "SnapshotStore" (230 : Nat) ({ cls := "SnapshotStore", name := "lastUpTo", desc := "(I)LSnapshotStore$Key;" } : Jvm.MethodName)) ∈ TT := tt_1 90 rfl rfl
theorem k_92 : (Jvm.Cond.instanceMethod ({ cls := "SnapshotStore", name := "lastUpTo", desc := "(I)LSnapshotStore$Key;" } : Jvm.MethodName)) ∈ TT := tt_1 92 rfl rfl
theorem k_93 : (Jvm.Cond.code ({ cls := "SnapshotStore", name := "lastUpTo", desc := "(I)LSnapshotStore$Key;" } : Jvm.MethodName) prog_1_method_28_code (4 : Nat) (Option.some (Jvm.ClassFile.FieldType.object "SnapshotStore$Key"))) ∈ TT := tt_1 93 rfl rfl
theorem k_94 : (Jvm.Cond.methodLink "SnapshotStore" (171 : Nat) ({ cls := "SnapshotStore$Key", name := "contentAt", desc := "(I)J" } : Jvm.MethodName)) ∈ TT := tt_1 94 rfl rfl
theorem k_95 : (Jvm.Cond.instanceMethod ({ cls := "SnapshotStore$Key", name := "contentAt", desc := "(I)J" } : Jvm.MethodName)) ∈ TT := tt_1 95 rfl rfl
theorem k_96 : (Jvm.Cond.selects "SnapshotStore$Key" ({ cls := "SnapshotStore$Key", name := "contentAt", desc := "(I)J" } : Jvm.MethodName) ({ cls := "SnapshotStore$Key", name := "contentAt", desc := "(I)J" } : Jvm.MethodName)) ∈ TT := tt_1 96 rfl rfl
theorem k_97 : (Jvm.Cond.code ({ cls := "SnapshotStore$Key", name := "contentAt", desc := "(I)J" } : Jvm.MethodName) prog_2_method_3_code (3 : Nat) (Option.some Jvm.ClassFile.FieldType.long)) ∈ TT := tt_1 97 rfl rfl
theorem k_98 : (Jvm.Cond.methodLink "SnapshotStore$Key" (31 : Nat) ({ cls := "SnapshotStore$Key", name := "versionAt", desc := "(I)LSnapshotStore$Version;" } : Jvm.MethodName)) ∈ TT := tt_1 98 rfl rfl
theorem k_99 : (Jvm.Cond.constantLong "SnapshotStore$Key" (35 : Nat) (4294967296 : Int64)) ∈ TT := tt_1 99 rfl rfl
theorem k_100 : (Jvm.Cond.methodLink "SnapshotStore" (53 : Nat) ({ cls := "SnapshotStore", name := "valueOrZero", desc := "(J)I" } : Jvm.MethodName)) ∈ TT := tt_1 100 rfl rfl
theorem k_101 : (Jvm.Cond.static ({ cls := "SnapshotStore", name := "valueOrZero", desc := "(J)I" } : Jvm.MethodName)) ∈ TT := tt_1 101 rfl rfl
theorem k_102 : (Jvm.Cond.code ({ cls := "SnapshotStore", name := "valueOrZero", desc := "(J)I" } : Jvm.MethodName) prog_1_method_30_code (2 : Nat) (Option.some Jvm.ClassFile.FieldType.int)) ∈ TT := tt_1 102 rfl rfl
theorem k_103 : (Jvm.Cond.methodLink "SnapshotStoreLaw" (122 : Nat) ({ cls := "SnapshotStore", name := "versions", desc := "(I)I" } : Jvm.MethodName)) ∈ TT := tt_1 103 rfl rfl
theorem k_104 : (Jvm.Cond.instanceMethod ({ cls := "SnapshotStore", name := "versions", desc := "(I)I" } : Jvm.MethodName)) ∈ TT := tt_1 104 rfl rfl
theorem k_105 : (Jvm.Cond.selects "SnapshotStore" ({ cls := "SnapshotStore", name := "versions", desc := "(I)I" } : Jvm.MethodName) ({ cls := "SnapshotStore", name := "versions", desc := "(I)I" } : Jvm.MethodName)) ∈ TT := tt_1 105 rfl rfl
theorem k_106 : (Jvm.Cond.code ({ cls := "SnapshotStore", name := "versions", desc := "(I)I" } : Jvm.MethodName) prog_1_method_18_code (3 : Nat) (Option.some Jvm.ClassFile.FieldType.int)) ∈ TT := tt_1 106 rfl rfl
theorem k_107 : (Jvm.Cond.methodLink "SnapshotStore" (175 : Nat) ({ cls := "SnapshotStore$Key", name := "versionCount", desc := "()I" } : Jvm.MethodName)) ∈ TT := tt_1 107 rfl rfl
theorem k_108 : (Jvm.Cond.instanceMethod ({ cls := "SnapshotStore$Key", name := "versionCount", desc := "()I" } : Jvm.MethodName)) ∈ TT := tt_1 108 rfl rfl
theorem k_109 : (Jvm.Cond.selects "SnapshotStore$Key" ({ cls := "SnapshotStore$Key", name := "versionCount", desc := "()I" } : Jvm.MethodName) ({ cls := "SnapshotStore$Key", name := "versionCount", desc := "()I" } : Jvm.MethodName)) ∈ TT := tt_1 109 rfl rfl
theorem k_110 : (Jvm.Cond.code ({ cls := "SnapshotStore$Key", name := "versionCount", desc := "()I" } : Jvm.MethodName) prog_2_method_4_code (3 : Nat) (Option.some Jvm.ClassFile.FieldType.int)) ∈ TT := tt_1 110 rfl rfl
theorem k_111 : (Jvm.Cond.methodLink "SnapshotStoreLaw" (126 : Nat) ({ cls := "SnapshotStore", name := "count", desc := "(I)I" } : Jvm.MethodName)) ∈ TT := tt_1 111 rfl rfl
theorem k_112 : (Jvm.Cond.instanceMethod ({ cls := "SnapshotStore", name := "count", desc := "(I)I" } : Jvm.MethodName)) ∈ TT := tt_1 112 rfl rfl
theorem k_113 : (Jvm.Cond.selects "SnapshotStore" ({ cls := "SnapshotStore", name := "count", desc := "(I)I" } : Jvm.MethodName) ({ cls := "SnapshotStore", name := "count", desc := "(I)I" } : Jvm.MethodName)) ∈ TT := tt_1 113 rfl rfl
theorem k_114 : (Jvm.Cond.code ({ cls := "SnapshotStore", name := "count", desc := "(I)I" } : Jvm.MethodName) prog_1_method_19_code (2 : Nat) (Option.some Jvm.ClassFile.FieldType.int)) ∈ TT := tt_1 114 rfl rfl
theorem k_115 : (Jvm.Cond.methodLink "SnapshotStore" (178 : Nat) ({ cls := "SnapshotStore", name := "allVersions", desc := "()I" } : Jvm.MethodName)) ∈ TT := tt_1 115 rfl rfl
theorem k_117 : (Jvm.Cond.instanceMethod ({ cls := "SnapshotStore", name := "allVersions", desc := "()I" } : Jvm.MethodName)) ∈ TT := tt_1 117 rfl rfl
theorem k_118 : (Jvm.Cond.code ({ cls := "SnapshotStore", name := "allVersions", desc := "()I" } : Jvm.MethodName) prog_1_method_39_code (3 : Nat) (Option.some Jvm.ClassFile.FieldType.int)) ∈ TT := tt_1 118 rfl rfl
theorem k_119 : (Jvm.Cond.methodLink "SnapshotStore" (181 : Nat) ({ cls := "SnapshotStore", name := "keysWithVersions", desc := "()I" } : Jvm.MethodName)) ∈ TT := tt_1 119 rfl rfl
theorem k_121 : (Jvm.Cond.instanceMethod ({ cls := "SnapshotStore", name := "keysWithVersions", desc := "()I" } : Jvm.MethodName)) ∈ TT := tt_1 121 rfl rfl
theorem k_122 : (Jvm.Cond.code ({ cls := "SnapshotStore", name := "keysWithVersions", desc := "()I" } : Jvm.MethodName) prog_1_method_40_code (3 : Nat) (Option.some Jvm.ClassFile.FieldType.int)) ∈ TT := tt_1 122 rfl rfl
theorem k_123 : (Jvm.Cond.methodLink "SnapshotStore" (184 : Nat) ({ cls := "SnapshotStore", name := "keysWithValue", desc := "()I" } : Jvm.MethodName)) ∈ TT := tt_1 123 rfl rfl
theorem k_125 : (Jvm.Cond.instanceMethod ({ cls := "SnapshotStore", name := "keysWithValue", desc := "()I" } : Jvm.MethodName)) ∈ TT := tt_1 125 rfl rfl
theorem k_126 : (Jvm.Cond.code ({ cls := "SnapshotStore", name := "keysWithValue", desc := "()I" } : Jvm.MethodName) prog_1_method_41_code (3 : Nat) (Option.some Jvm.ClassFile.FieldType.int)) ∈ TT := tt_1 126 rfl rfl
theorem k_127 : (Jvm.Cond.methodLink "SnapshotStore" (187 : Nat) ({ cls := "SnapshotStore", name := "openOnes", desc := "()I" } : Jvm.MethodName)) ∈ TT := tt_1 127 rfl rfl
theorem k_129 : (Jvm.Cond.instanceMethod ({ cls := "SnapshotStore", name := "openOnes", desc := "()I" } : Jvm.MethodName)) ∈ TT := tt_1 129 rfl rfl
theorem k_130 : (Jvm.Cond.code ({ cls := "SnapshotStore", name := "openOnes", desc := "()I" } : Jvm.MethodName) prog_1_method_42_code (6 : Nat) (Option.some Jvm.ClassFile.FieldType.int)) ∈ TT := tt_1 130 rfl rfl
theorem k_131 : (Jvm.Cond.methodLink "SnapshotStoreLaw" (130 : Nat) ({ cls := "SnapshotStore", name := "astray", desc := "()I" } : Jvm.MethodName)) ∈ TT := tt_1 131 rfl rfl
theorem k_132 : (Jvm.Cond.instanceMethod ({ cls := "SnapshotStore", name := "astray", desc := "()I" } : Jvm.MethodName)) ∈ TT := tt_1 132 rfl rfl
theorem k_133 : (Jvm.Cond.selects "SnapshotStore" ({ cls := "SnapshotStore", name := "astray", desc := "()I" } : Jvm.MethodName) ({ cls := "SnapshotStore", name := "astray", desc := "()I" } : Jvm.MethodName)) ∈ TT := tt_1 133 rfl rfl
theorem k_134 : (Jvm.Cond.code ({ cls := "SnapshotStore", name := "astray", desc := "()I" } : Jvm.MethodName) prog_1_method_20_code (3 : Nat) (Option.some Jvm.ClassFile.FieldType.int)) ∈ TT := tt_1 134 rfl rfl
theorem k_135 : (Jvm.Cond.methodLink "SnapshotStore" (190 : Nat) ({ cls := "SnapshotStore$Key", name := "isInOrder", desc := "(I)Z" } : Jvm.MethodName)) ∈ TT := tt_1 135 rfl rfl
theorem k_136 : (Jvm.Cond.instanceMethod ({ cls := "SnapshotStore$Key", name := "isInOrder", desc := "(I)Z" } : Jvm.MethodName)) ∈ TT := tt_1 136 rfl rfl
theorem k_137 : (Jvm.Cond.selects "SnapshotStore$Key" ({ cls := "SnapshotStore$Key", name := "isInOrder", desc := "(I)Z" } : Jvm.MethodName) ({ cls := "SnapshotStore$Key", name := "isInOrder", desc := "(I)Z" } : Jvm.MethodName)) ∈ TT := tt_1 137 rfl rfl
theorem k_138 : (Jvm.Cond.code ({ cls := "SnapshotStore$Key", name := "isInOrder", desc := "(I)Z" } : Jvm.MethodName) prog_2_method_5_code (3 : Nat) (Option.some Jvm.ClassFile.FieldType.boolean)) ∈ TT := tt_1 138 rfl rfl
theorem k_139 : (Jvm.Cond.methodLink "SnapshotStoreLaw" (60 : Nat) ({ cls := "SnapshotStoreLaw", name := "begin", desc := "(LSnapshotStore;I[J)I" } : Jvm.MethodName)) ∈ TT := tt_1 139 rfl rfl
theorem k_140 : (Jvm.Cond.static ({ cls := "SnapshotStoreLaw", name := "begin", desc := "(LSnapshotStore;I[J)I" } : Jvm.MethodName)) ∈ TT := tt_1 140 rfl rfl
theorem k_141 : (Jvm.Cond.codeWith ({ cls := "SnapshotStoreLaw", name := "begin", desc := "(LSnapshotStore;I[J)I" } : Jvm.MethodName) method_3_code (4 : Nat) (Option.some Jvm.ClassFile.FieldType.int) [((0 : Nat), (9 : Nat), (12 : Nat), (13 : Nat)), ((0 : Nat), (9 : Nat), (15 : Nat), (15 : Nat))]) ∈ TT := tt_1 141 rfl rfl
theorem k_142 : (Jvm.Cond.classLink "SnapshotStoreLaw" (13 : Nat) "java/lang/IllegalArgumentException") ∈ TT := tt_1 142 rfl rfl
theorem k_143 : (Jvm.Cond.classLink "SnapshotStoreLaw" (15 : Nat) "java/lang/IllegalStateException") ∈ TT := tt_1 143 rfl rfl
theorem k_144 : (Jvm.Cond.methodLink "SnapshotStoreLaw" (7 : Nat) ({ cls := "SnapshotStore", name := "begin", desc := "(I)I" } : Jvm.MethodName)) ∈ TT := tt_1 144 rfl rfl
theorem k_145 : (Jvm.Cond.instanceMethod ({ cls := "SnapshotStore", name := "begin", desc := "(I)I" } : Jvm.MethodName)) ∈ TT := tt_1 145 rfl rfl
theorem k_146 : (Jvm.Cond.selects "SnapshotStore" ({ cls := "SnapshotStore", name := "begin", desc := "(I)I" } : Jvm.MethodName) ({ cls := "SnapshotStore", name := "begin", desc := "(I)I" } : Jvm.MethodName)) ∈ TT := tt_1 146 rfl rfl
theorem k_147 : (Jvm.Cond.code ({ cls := "SnapshotStore", name := "begin", desc := "(I)I" } : Jvm.MethodName) prog_1_method_2_code (3 : Nat) (Option.some Jvm.ClassFile.FieldType.int)) ∈ TT := tt_1 147 rfl rfl
theorem k_148 : (Jvm.Cond.classLink "SnapshotStore" (15 : Nat) "java/lang/IllegalArgumentException") ∈ TT := tt_1 148 rfl rfl
theorem k_149 : (Jvm.Cond.instantiable "java/lang/IllegalArgumentException" (6 : Nat)) ∈ TT := tt_1 149 rfl rfl
theorem k_157 : (Jvm.Cond.selects "java/lang/IllegalArgumentException" ({ cls := "java/lang/Throwable", name := "fillInStackTrace", desc := "(I)Ljava/lang/Throwable;" } : Jvm.MethodName) ({ cls := "java/lang/Throwable", name := "fillInStackTrace", desc := "(I)Ljava/lang/Throwable;" } : Jvm.MethodName)) ∈ TT := tt_1 157 rfl rfl
theorem k_158 : (Jvm.Cond.selects "java/lang/IllegalArgumentException" ({ cls := "java/lang/Throwable", name := "fillInStackTrace", desc := "()Ljava/lang/Throwable;" } : Jvm.MethodName) ({ cls := "java/lang/Throwable", name := "fillInStackTrace", desc := "()Ljava/lang/Throwable;" } : Jvm.MethodName)) ∈ TT := tt_1 158 rfl rfl
theorem k_159 : (Jvm.Cond.lays "java/lang/IllegalArgumentException" "java/lang/Throwable" "cause" "Ljava/lang/Throwable;") ∈ TT := tt_1 159 rfl rfl
theorem k_160 : (Jvm.Cond.lays "java/lang/Throwable" "java/lang/Throwable" "cause" "Ljava/lang/Throwable;") ∈ TT := tt_1 160 rfl rfl
theorem k_161 : (Jvm.Cond.lays "java/lang/IllegalArgumentException" "java/lang/Throwable" "stackTrace" "[Ljava/lang/StackTraceElement;") ∈ TT := tt_1 161 rfl rfl
theorem k_162 : (Jvm.Cond.lays "java/lang/Throwable" "java/lang/Throwable" "stackTrace" "[Ljava/lang/StackTraceElement;") ∈ TT := tt_1 162 rfl rfl
theorem k_163 : (Jvm.Cond.lays "java/lang/IllegalArgumentException" "java/lang/Throwable" "suppressedExceptions" "Ljava/util/List;") ∈ TT := tt_1 163 rfl rfl
theorem k_164 : (Jvm.Cond.lays "java/lang/Throwable" "java/lang/Throwable" "suppressedExceptions" "Ljava/util/List;") ∈ TT := tt_1 164 rfl rfl
theorem k_165 : (Jvm.Cond.lays "java/lang/IllegalArgumentException" "java/lang/Throwable" "detailMessage" "Ljava/lang/String;") ∈ TT := tt_1 165 rfl rfl
theorem k_166 : (Jvm.Cond.lays "java/lang/Throwable" "java/lang/Throwable" "detailMessage" "Ljava/lang/String;") ∈ TT := tt_1 166 rfl rfl
theorem k_167 : (Jvm.Cond.lays "java/lang/IllegalArgumentException" "java/lang/Throwable" "backtrace" "Ljava/lang/Object;") ∈ TT := tt_1 167 rfl rfl
theorem k_168 : (Jvm.Cond.lays "java/lang/Throwable" "java/lang/Throwable" "backtrace" "Ljava/lang/Object;") ∈ TT := tt_1 168 rfl rfl
theorem k_169 : (Jvm.Cond.fieldLink "java/lang/Throwable" (198 : Nat) "java/lang/Throwable" "backtrace" "Ljava/lang/Object;") ∈ TT := tt_1 169 rfl rfl
theorem k_171 : (Jvm.Cond.instanceMethod ({ cls := "java/lang/Throwable", name := "<init>", desc := "()V" } : Jvm.MethodName)) ∈ TT := tt_1 171 rfl rfl
theorem k_172 : (Jvm.Cond.code ({ cls := "java/lang/Throwable", name := "<init>", desc := "()V" } : Jvm.MethodName) prog_16_method_1_code (1 : Nat) (Option.none : Option Jvm.ClassFile.FieldType)) ∈ TT := tt_1 172 rfl rfl
theorem k_173 : (Jvm.Cond.methodLink "java/lang/Throwable" (1 : Nat) ({ cls := "java/lang/Object", name := "<init>", desc := "()V" } : Jvm.MethodName)) ∈ TT := tt_1 173 rfl rfl
theorem k_174 : (Jvm.Cond.fieldLink "java/lang/Throwable" (13 : Nat) "java/lang/Throwable" "UNASSIGNED_STACK" "[Ljava/lang/StackTraceElement;") ∈ TT := tt_1 174 rfl rfl
theorem k_176 : (Jvm.Cond.fieldLink "java/lang/Throwable" (20 : Nat) "java/lang/Throwable" "SUPPRESSED_SENTINEL" "Ljava/util/List;") ∈ TT := tt_1 176 rfl rfl
theorem k_178 : (Jvm.Cond.methodLink "java/lang/Throwable" (27 : Nat) ({ cls := "java/lang/Throwable", name := "fillInStackTrace", desc := "()Ljava/lang/Throwable;" } : Jvm.MethodName)) ∈ TT := tt_1 178 rfl rfl
theorem k_179 : (Jvm.Cond.instanceMethod ({ cls := "java/lang/Throwable", name := "fillInStackTrace", desc := "()Ljava/lang/Throwable;" } : Jvm.MethodName)) ∈ TT := tt_1 179 rfl rfl
theorem k_181 : (Jvm.Cond.selects "java/lang/IllegalStateException" ({ cls := "java/lang/Throwable", name := "fillInStackTrace", desc := "()Ljava/lang/Throwable;" } : Jvm.MethodName) ({ cls := "java/lang/Throwable", name := "fillInStackTrace", desc := "()Ljava/lang/Throwable;" } : Jvm.MethodName)) ∈ TT := tt_1 181 rfl rfl
theorem k_182 : (Jvm.Cond.selects "java/lang/IndexOutOfBoundsException" ({ cls := "java/lang/Throwable", name := "fillInStackTrace", desc := "()Ljava/lang/Throwable;" } : Jvm.MethodName) ({ cls := "java/lang/Throwable", name := "fillInStackTrace", desc := "()Ljava/lang/Throwable;" } : Jvm.MethodName)) ∈ TT := tt_1 182 rfl rfl
theorem k_184 : (Jvm.Cond.methodLink "java/lang/Throwable" (202 : Nat) ({ cls := "java/lang/Throwable", name := "fillInStackTrace", desc := "(I)Ljava/lang/Throwable;" } : Jvm.MethodName)) ∈ TT := tt_1 184 rfl rfl
theorem k_186 : (Jvm.Cond.instanceMethod ({ cls := "java/lang/Throwable", name := "fillInStackTrace", desc := "(I)Ljava/lang/Throwable;" } : Jvm.MethodName)) ∈ TT := tt_1 186 rfl rfl
theorem k_187 : (Jvm.Cond.instantiable "java/lang/Throwable" (6 : Nat)) ∈ TT := tt_1 187 rfl rfl
theorem k_190 : (Jvm.Cond.methodLink "SnapshotStore" (19 : Nat) ({ cls := "java/lang/IllegalArgumentException", name := "<init>", desc := "(Ljava/lang/String;)V" } : Jvm.MethodName)) ∈ TT := tt_1 190 rfl rfl
theorem k_191 : (Jvm.Cond.instanceMethod ({ cls := "java/lang/IllegalArgumentException", name := "<init>", desc := "(Ljava/lang/String;)V" } : Jvm.MethodName)) ∈ TT := tt_1 191 rfl rfl
theorem k_192 : (Jvm.Cond.code ({ cls := "java/lang/IllegalArgumentException", name := "<init>", desc := "(Ljava/lang/String;)V" } : Jvm.MethodName) prog_11_method_2_code (2 : Nat) (Option.none : Option Jvm.ClassFile.FieldType)) ∈ TT := tt_1 192 rfl rfl
theorem k_193 : (Jvm.Cond.methodLink "java/lang/IllegalArgumentException" (7 : Nat) ({ cls := "java/lang/RuntimeException", name := "<init>", desc := "(Ljava/lang/String;)V" } : Jvm.MethodName)) ∈ TT := tt_1 193 rfl rfl
theorem k_194 : (Jvm.Cond.instanceMethod ({ cls := "java/lang/RuntimeException", name := "<init>", desc := "(Ljava/lang/String;)V" } : Jvm.MethodName)) ∈ TT := tt_1 194 rfl rfl
theorem k_195 : (Jvm.Cond.code ({ cls := "java/lang/RuntimeException", name := "<init>", desc := "(Ljava/lang/String;)V" } : Jvm.MethodName) prog_14_method_2_code (2 : Nat) (Option.none : Option Jvm.ClassFile.FieldType)) ∈ TT := tt_1 195 rfl rfl
theorem k_196 : (Jvm.Cond.methodLink "java/lang/RuntimeException" (7 : Nat) ({ cls := "java/lang/Exception", name := "<init>", desc := "(Ljava/lang/String;)V" } : Jvm.MethodName)) ∈ TT := tt_1 196 rfl rfl
theorem k_197 : (Jvm.Cond.instanceMethod ({ cls := "java/lang/Exception", name := "<init>", desc := "(Ljava/lang/String;)V" } : Jvm.MethodName)) ∈ TT := tt_1 197 rfl rfl
theorem k_198 : (Jvm.Cond.code ({ cls := "java/lang/Exception", name := "<init>", desc := "(Ljava/lang/String;)V" } : Jvm.MethodName) prog_10_method_2_code (2 : Nat) (Option.none : Option Jvm.ClassFile.FieldType)) ∈ TT := tt_1 198 rfl rfl
theorem k_199 : (Jvm.Cond.methodLink "java/lang/Exception" (7 : Nat) ({ cls := "java/lang/Throwable", name := "<init>", desc := "(Ljava/lang/String;)V" } : Jvm.MethodName)) ∈ TT := tt_1 199 rfl rfl
theorem k_200 : (Jvm.Cond.instanceMethod ({ cls := "java/lang/Throwable", name := "<init>", desc := "(Ljava/lang/String;)V" } : Jvm.MethodName)) ∈ TT := tt_1 200 rfl rfl
theorem k_201 : (Jvm.Cond.code ({ cls := "java/lang/Throwable", name := "<init>", desc := "(Ljava/lang/String;)V" } : Jvm.MethodName) prog_16_method_2_code (2 : Nat) (Option.none : Option Jvm.ClassFile.FieldType)) ∈ TT := tt_1 201 rfl rfl
theorem k_202 : (Jvm.Cond.fieldLink "java/lang/Throwable" (198 : Nat) "java/lang/Throwable" "backtrace" "Ljava/lang/Object;") ∈ TT := tt_1 202 rfl rfl
theorem k_203 : (Jvm.Cond.fieldLink "java/lang/Throwable" (31 : Nat) "java/lang/Throwable" "detailMessage" "Ljava/lang/String;") ∈ TT := tt_1 203 rfl rfl
theorem k_204 : (Jvm.Cond.fieldLink "java/lang/Throwable" (7 : Nat) "java/lang/Throwable" "cause" "Ljava/lang/Throwable;") ∈ TT := tt_1 204 rfl rfl
theorem k_205 : (Jvm.Cond.fieldLink "java/lang/Throwable" (17 : Nat) "java/lang/Throwable" "stackTrace" "[Ljava/lang/StackTraceElement;") ∈ TT := tt_1 205 rfl rfl
theorem k_206 : (Jvm.Cond.fieldLink "java/lang/Throwable" (24 : Nat) "java/lang/Throwable" "suppressedExceptions" "Ljava/util/List;") ∈ TT := tt_1 206 rfl rfl
theorem k_211 : (Jvm.Cond.lays "java/lang/IllegalArgumentException" "java/lang/Throwable" "depth" "I") ∈ TT := tt_1 211 rfl rfl
theorem k_215 : (Jvm.Cond.arrayClass Jvm.ClassFile.FieldType.byte) ∈ TT := tt_1 215 rfl rfl
theorem k_216 : (Jvm.Cond.classLink "SnapshotStore" (26 : Nat) "java/lang/IllegalStateException") ∈ TT := tt_1 216 rfl rfl
theorem k_217 : (Jvm.Cond.instantiable "java/lang/IllegalStateException" (6 : Nat)) ∈ TT := tt_1 217 rfl rfl
theorem k_219 : (Jvm.Cond.selects "java/lang/IllegalStateException" ({ cls := "java/lang/Throwable", name := "fillInStackTrace", desc := "(I)Ljava/lang/Throwable;" } : Jvm.MethodName) ({ cls := "java/lang/Throwable", name := "fillInStackTrace", desc := "(I)Ljava/lang/Throwable;" } : Jvm.MethodName)) ∈ TT := tt_1 219 rfl rfl
theorem k_220 : (Jvm.Cond.lays "java/lang/IllegalStateException" "java/lang/Throwable" "cause" "Ljava/lang/Throwable;") ∈ TT := tt_1 220 rfl rfl
theorem k_221 : (Jvm.Cond.lays "java/lang/IllegalStateException" "java/lang/Throwable" "stackTrace" "[Ljava/lang/StackTraceElement;") ∈ TT := tt_1 221 rfl rfl
theorem k_222 : (Jvm.Cond.lays "java/lang/IllegalStateException" "java/lang/Throwable" "suppressedExceptions" "Ljava/util/List;") ∈ TT := tt_1 222 rfl rfl
theorem k_223 : (Jvm.Cond.lays "java/lang/IllegalStateException" "java/lang/Throwable" "detailMessage" "Ljava/lang/String;") ∈ TT := tt_1 223 rfl rfl
theorem k_224 : (Jvm.Cond.lays "java/lang/IllegalStateException" "java/lang/Throwable" "backtrace" "Ljava/lang/Object;") ∈ TT := tt_1 224 rfl rfl
theorem k_226 : (Jvm.Cond.methodLink "SnapshotStore" (30 : Nat) ({ cls := "java/lang/IllegalStateException", name := "<init>", desc := "(Ljava/lang/String;)V" } : Jvm.MethodName)) ∈ TT := tt_1 226 rfl rfl
theorem k_227 : (Jvm.Cond.instanceMethod ({ cls := "java/lang/IllegalStateException", name := "<init>", desc := "(Ljava/lang/String;)V" } : Jvm.MethodName)) ∈ TT := tt_1 227 rfl rfl
theorem k_228 : (Jvm.Cond.code ({ cls := "java/lang/IllegalStateException", name := "<init>", desc := "(Ljava/lang/String;)V" } : Jvm.MethodName) prog_12_method_2_code (2 : Nat) (Option.none : Option Jvm.ClassFile.FieldType)) ∈ TT := tt_1 228 rfl rfl
theorem k_229 : (Jvm.Cond.methodLink "java/lang/IllegalStateException" (7 : Nat) ({ cls := "java/lang/RuntimeException", name := "<init>", desc := "(Ljava/lang/String;)V" } : Jvm.MethodName)) ∈ TT := tt_1 229 rfl rfl
theorem k_230 : (Jvm.Cond.lays "java/lang/IllegalStateException" "java/lang/Throwable" "depth" "I") ∈ TT := tt_1 230 rfl rfl
theorem k_232 : (Jvm.Cond.instantiable "SnapshotStore$Transaction" (8 : Nat)) ∈ TT := tt_1 232 rfl rfl
theorem k_233 : (Jvm.Cond.methodLink "SnapshotStore" (34 : Nat) ({ cls := "SnapshotStore$Transaction", name := "<init>", desc := "(II)V" } : Jvm.MethodName)) ∈ TT := tt_1 233 rfl rfl
theorem k_234 : (Jvm.Cond.instanceMethod ({ cls := "SnapshotStore$Transaction", name := "<init>", desc := "(II)V" } : Jvm.MethodName)) ∈ TT := tt_1 234 rfl rfl
theorem k_235 : (Jvm.Cond.code ({ cls := "SnapshotStore$Transaction", name := "<init>", desc := "(II)V" } : Jvm.MethodName) prog_5_method_1_code (3 : Nat) (Option.none : Option Jvm.ClassFile.FieldType)) ∈ TT := tt_1 235 rfl rfl
theorem k_236 : (Jvm.Cond.methodLink "SnapshotStore$Transaction" (3 : Nat) ({ cls := "java/lang/Object", name := "<init>", desc := "()V" } : Jvm.MethodName)) ∈ TT := tt_1 236 rfl rfl
theorem k_237 : (Jvm.Cond.fieldLink "SnapshotStore$Transaction" (18 : Nat) "SnapshotStore$Transaction" "level" "I") ∈ TT := tt_1 237 rfl rfl
theorem k_238 : (Jvm.Cond.fieldLink "SnapshotStore" (121 : Nat) "SnapshotStore$Transaction" "level" "I") ∈ TT := tt_1 238 rfl rfl
theorem k_239 : (Jvm.Cond.fieldLink "SnapshotStore$Transaction" (21 : Nat) "SnapshotStore$Transaction" "start" "I") ∈ TT := tt_1 239 rfl rfl
theorem k_240 : (Jvm.Cond.fieldLink "SnapshotStore" (166 : Nat) "SnapshotStore$Transaction" "start" "I") ∈ TT := tt_2 0 rfl rfl
theorem k_241 : (Jvm.Cond.fieldLink "SnapshotStore$Transaction" (9 : Nat) "SnapshotStore$Transaction" "state" "I") ∈ TT := tt_2 1 rfl rfl
theorem k_242 : (Jvm.Cond.fieldLink "SnapshotStore" (160 : Nat) "SnapshotStore$Transaction" "state" "I") ∈ TT := tt_2 2 rfl rfl
theorem k_243 : (Jvm.Cond.fieldLink "SnapshotStore$Transaction" (15 : Nat) "SnapshotStore$Transaction" "stamp" "I") ∈ TT := tt_2 3 rfl rfl
theorem k_244 : (Jvm.Cond.fieldLink "SnapshotStore" (135 : Nat) "SnapshotStore$Transaction" "stamp" "I") ∈ TT := tt_2 4 rfl rfl
theorem k_245 : (Jvm.Cond.fieldLink "SnapshotStore" (138 : Nat) "SnapshotStore$Transaction" "hadAfter" "Z") ∈ TT := tt_2 5 rfl rfl
theorem k_246 : (Jvm.Cond.fieldLink "SnapshotStore$Transaction" (28 : Nat) "SnapshotStore$Transaction" "latest" "LSnapshotStore$Write;") ∈ TT := tt_2 6 rfl rfl
theorem k_247 : (Jvm.Cond.fieldLink "SnapshotStore" (92 : Nat) "SnapshotStore$Transaction" "latest" "LSnapshotStore$Write;") ∈ TT := tt_2 7 rfl rfl
theorem k_248 : (Jvm.Cond.fieldLink "SnapshotStore$Transaction" (54 : Nat) "SnapshotStore$Transaction" "ranges" "LSnapshotStore$Range;") ∈ TT := tt_2 8 rfl rfl
theorem k_249 : (Jvm.Cond.fieldLink "SnapshotStore" (211 : Nat) "SnapshotStore$Transaction" "ranges" "LSnapshotStore$Range;") ∈ TT := tt_2 9 rfl rfl
theorem k_250 : (Jvm.Cond.fieldLink "SnapshotStore$Transaction" (24 : Nat) "SnapshotStore$Transaction" "place" "LSnapshotStore$Place;") ∈ TT := tt_2 10 rfl rfl
theorem k_251 : (Jvm.Cond.fieldLink "SnapshotStore" (96 : Nat) "SnapshotStore$Transaction" "place" "LSnapshotStore$Place;") ∈ TT := tt_2 11 rfl rfl
theorem k_252 : (Jvm.Cond.laysFinal "SnapshotStore$Transaction" "SnapshotStore$Transaction" "level" "I") ∈ TT := tt_2 12 rfl rfl
theorem k_254 : (Jvm.Cond.laysFinal "SnapshotStore$Transaction" "SnapshotStore$Transaction" "start" "I") ∈ TT := tt_2 14 rfl rfl
theorem k_256 : (Jvm.Cond.lays "SnapshotStore$Transaction" "SnapshotStore$Transaction" "state" "I") ∈ TT := tt_2 16 rfl rfl
theorem k_258 : (Jvm.Cond.lays "SnapshotStore$Transaction" "SnapshotStore$Transaction" "stamp" "I") ∈ TT := tt_2 18 rfl rfl
theorem k_260 : (Jvm.Cond.lays "SnapshotStore$Transaction" "SnapshotStore$Transaction" "hadAfter" "Z") ∈ TT := tt_2 20 rfl rfl
theorem k_262 : (Jvm.Cond.lays "SnapshotStore$Transaction" "SnapshotStore$Transaction" "latest" "LSnapshotStore$Write;") ∈ TT := tt_2 22 rfl rfl
theorem k_264 : (Jvm.Cond.lays "SnapshotStore$Transaction" "SnapshotStore$Transaction" "ranges" "LSnapshotStore$Range;") ∈ TT := tt_2 24 rfl rfl
theorem k_266 : (Jvm.Cond.lays "SnapshotStore$Transaction" "SnapshotStore$Transaction" "place" "LSnapshotStore$Place;") ∈ TT := tt_2 26 rfl rfl
theorem k_269 : (Jvm.Cond.methodLink "SnapshotStoreLaw" (70 : Nat) ({ cls := "SnapshotStoreLaw", name := "read", desc := "(LSnapshotStore;II[J)I" } : Jvm.MethodName)) ∈ TT := tt_2 29 rfl rfl
theorem k_270 : (Jvm.Cond.static ({ cls := "SnapshotStoreLaw", name := "read", desc := "(LSnapshotStore;II[J)I" } : Jvm.MethodName)) ∈ TT := tt_2 30 rfl rfl
theorem k_271 : (Jvm.Cond.codeWith ({ cls := "SnapshotStoreLaw", name := "read", desc := "(LSnapshotStore;II[J)I" } : Jvm.MethodName) method_4_code (5 : Nat) (Option.some Jvm.ClassFile.FieldType.int) [((0 : Nat), (10 : Nat), (13 : Nat), (21 : Nat)), ((0 : Nat), (10 : Nat), (17 : Nat), (15 : Nat))]) ∈ TT := tt_2 31 rfl rfl
theorem k_272 : (Jvm.Cond.classLink "SnapshotStoreLaw" (21 : Nat) "java/lang/IndexOutOfBoundsException") ∈ TT := tt_2 32 rfl rfl
theorem k_273 : (Jvm.Cond.methodLink "SnapshotStoreLaw" (17 : Nat) ({ cls := "SnapshotStore", name := "read", desc := "(II)I" } : Jvm.MethodName)) ∈ TT := tt_2 33 rfl rfl
theorem k_274 : (Jvm.Cond.instanceMethod ({ cls := "SnapshotStore", name := "read", desc := "(II)I" } : Jvm.MethodName)) ∈ TT := tt_2 34 rfl rfl
theorem k_275 : (Jvm.Cond.selects "SnapshotStore" ({ cls := "SnapshotStore", name := "read", desc := "(II)I" } : Jvm.MethodName) ({ cls := "SnapshotStore", name := "read", desc := "(II)I" } : Jvm.MethodName)) ∈ TT := tt_2 35 rfl rfl
theorem k_276 : (Jvm.Cond.code ({ cls := "SnapshotStore", name := "read", desc := "(II)I" } : Jvm.MethodName) prog_1_method_3_code (4 : Nat) (Option.some Jvm.ClassFile.FieldType.int)) ∈ TT := tt_2 36 rfl rfl
theorem k_277 : (Jvm.Cond.methodLink "SnapshotStore" (37 : Nat) ({ cls := "SnapshotStore", name := "openOne", desc := "(I)LSnapshotStore$Transaction;" } : Jvm.MethodName)) ∈ TT := tt_2 37 rfl rfl
theorem k_279 : (Jvm.Cond.instanceMethod ({ cls := "SnapshotStore", name := "openOne", desc := "(I)LSnapshotStore$Transaction;" } : Jvm.MethodName)) ∈ TT := tt_2 39 rfl rfl
theorem k_280 : (Jvm.Cond.code ({ cls := "SnapshotStore", name := "openOne", desc := "(I)LSnapshotStore$Transaction;" } : Jvm.MethodName) prog_1_method_22_code (3 : Nat) (Option.some (Jvm.ClassFile.FieldType.object "SnapshotStore$Transaction"))) ∈ TT := tt_2 40 rfl rfl
theorem k_281 : (Jvm.Cond.methodLink "SnapshotStore" (163 : Nat) ({ cls := "SnapshotStore", name := "anyOne", desc := "(I)LSnapshotStore$Transaction;" } : Jvm.MethodName)) ∈ TT := tt_2 41 rfl rfl
theorem k_283 : (Jvm.Cond.instanceMethod ({ cls := "SnapshotStore", name := "anyOne", desc := "(I)LSnapshotStore$Transaction;" } : Jvm.MethodName)) ∈ TT := tt_2 43 rfl rfl
theorem k_284 : (Jvm.Cond.code ({ cls := "SnapshotStore", name := "anyOne", desc := "(I)LSnapshotStore$Transaction;" } : Jvm.MethodName) prog_1_method_21_code (3 : Nat) (Option.some (Jvm.ClassFile.FieldType.object "SnapshotStore$Transaction"))) ∈ TT := tt_2 44 rfl rfl
theorem k_285 : (Jvm.Cond.classLink "SnapshotStore" (194 : Nat) "java/lang/IndexOutOfBoundsException") ∈ TT := tt_2 45 rfl rfl
theorem k_286 : (Jvm.Cond.instantiable "java/lang/IndexOutOfBoundsException" (6 : Nat)) ∈ TT := tt_2 46 rfl rfl
theorem k_288 : (Jvm.Cond.selects "java/lang/IndexOutOfBoundsException" ({ cls := "java/lang/Throwable", name := "fillInStackTrace", desc := "(I)Ljava/lang/Throwable;" } : Jvm.MethodName) ({ cls := "java/lang/Throwable", name := "fillInStackTrace", desc := "(I)Ljava/lang/Throwable;" } : Jvm.MethodName)) ∈ TT := tt_2 48 rfl rfl
theorem k_289 : (Jvm.Cond.lays "java/lang/IndexOutOfBoundsException" "java/lang/Throwable" "cause" "Ljava/lang/Throwable;") ∈ TT := tt_2 49 rfl rfl
theorem k_290 : (Jvm.Cond.lays "java/lang/IndexOutOfBoundsException" "java/lang/Throwable" "stackTrace" "[Ljava/lang/StackTraceElement;") ∈ TT := tt_2 50 rfl rfl
theorem k_291 : (Jvm.Cond.lays "java/lang/IndexOutOfBoundsException" "java/lang/Throwable" "suppressedExceptions" "Ljava/util/List;") ∈ TT := tt_2 51 rfl rfl
theorem k_292 : (Jvm.Cond.lays "java/lang/IndexOutOfBoundsException" "java/lang/Throwable" "detailMessage" "Ljava/lang/String;") ∈ TT := tt_2 52 rfl rfl
theorem k_293 : (Jvm.Cond.lays "java/lang/IndexOutOfBoundsException" "java/lang/Throwable" "backtrace" "Ljava/lang/Object;") ∈ TT := tt_2 53 rfl rfl
theorem k_295 : (Jvm.Cond.methodLink "SnapshotStore" (198 : Nat) ({ cls := "java/lang/IndexOutOfBoundsException", name := "<init>", desc := "(Ljava/lang/String;)V" } : Jvm.MethodName)) ∈ TT := tt_2 55 rfl rfl
theorem k_296 : (Jvm.Cond.instanceMethod ({ cls := "java/lang/IndexOutOfBoundsException", name := "<init>", desc := "(Ljava/lang/String;)V" } : Jvm.MethodName)) ∈ TT := tt_2 56 rfl rfl
theorem k_297 : (Jvm.Cond.code ({ cls := "java/lang/IndexOutOfBoundsException", name := "<init>", desc := "(Ljava/lang/String;)V" } : Jvm.MethodName) prog_13_method_2_code (2 : Nat) (Option.none : Option Jvm.ClassFile.FieldType)) ∈ TT := tt_2 57 rfl rfl
theorem k_298 : (Jvm.Cond.methodLink "java/lang/IndexOutOfBoundsException" (7 : Nat) ({ cls := "java/lang/RuntimeException", name := "<init>", desc := "(Ljava/lang/String;)V" } : Jvm.MethodName)) ∈ TT := tt_2 58 rfl rfl
theorem k_299 : (Jvm.Cond.lays "java/lang/IndexOutOfBoundsException" "java/lang/Throwable" "depth" "I") ∈ TT := tt_2 59 rfl rfl
theorem k_302 : (Jvm.Cond.methodLink "SnapshotStore" (41 : Nat) ({ cls := "SnapshotStore", name := "noteRange", desc := "(LSnapshotStore$Transaction;II)V" } : Jvm.MethodName)) ∈ TT := tt_2 62 rfl rfl
theorem k_304 : (Jvm.Cond.instanceMethod ({ cls := "SnapshotStore", name := "noteRange", desc := "(LSnapshotStore$Transaction;II)V" } : Jvm.MethodName)) ∈ TT := tt_2 64 rfl rfl
theorem k_305 : (Jvm.Cond.code ({ cls := "SnapshotStore", name := "noteRange", desc := "(LSnapshotStore$Transaction;II)V" } : Jvm.MethodName) prog_1_method_24_code (4 : Nat) (Option.none : Option Jvm.ClassFile.FieldType)) ∈ TT := tt_2 65 rfl rfl
theorem k_306 : (Jvm.Cond.methodLink "SnapshotStore" (206 : Nat) ({ cls := "SnapshotStore", name := "countNote", desc := "()V" } : Jvm.MethodName)) ∈ TT := tt_2 66 rfl rfl
theorem k_308 : (Jvm.Cond.instanceMethod ({ cls := "SnapshotStore", name := "countNote", desc := "()V" } : Jvm.MethodName)) ∈ TT := tt_2 68 rfl rfl
theorem k_309 : (Jvm.Cond.code ({ cls := "SnapshotStore", name := "countNote", desc := "()V" } : Jvm.MethodName) prog_1_method_23_code (1 : Nat) (Option.none : Option Jvm.ClassFile.FieldType)) ∈ TT := tt_2 69 rfl rfl
theorem k_311 : (Jvm.Cond.classLink "SnapshotStore" (209 : Nat) "SnapshotStore$Range") ∈ TT := tt_2 71 rfl rfl
theorem k_312 : (Jvm.Cond.instantiable "SnapshotStore$Range" (3 : Nat)) ∈ TT := tt_2 72 rfl rfl
theorem k_313 : (Jvm.Cond.methodLink "SnapshotStore" (215 : Nat) ({ cls := "SnapshotStore$Range", name := "<init>", desc := "(IILSnapshotStore$Range;)V" } : Jvm.MethodName)) ∈ TT := tt_2 73 rfl rfl
theorem k_314 : (Jvm.Cond.instanceMethod ({ cls := "SnapshotStore$Range", name := "<init>", desc := "(IILSnapshotStore$Range;)V" } : Jvm.MethodName)) ∈ TT := tt_2 74 rfl rfl
theorem k_315 : (Jvm.Cond.code ({ cls := "SnapshotStore$Range", name := "<init>", desc := "(IILSnapshotStore$Range;)V" } : Jvm.MethodName) prog_4_method_1_code (4 : Nat) (Option.none : Option Jvm.ClassFile.FieldType)) ∈ TT := tt_2 75 rfl rfl
theorem k_316 : (Jvm.Cond.methodLink "SnapshotStore$Range" (1 : Nat) ({ cls := "java/lang/Object", name := "<init>", desc := "()V" } : Jvm.MethodName)) ∈ TT := tt_2 76 rfl rfl
theorem k_317 : (Jvm.Cond.fieldLink "SnapshotStore$Range" (7 : Nat) "SnapshotStore$Range" "low" "I") ∈ TT := tt_2 77 rfl rfl
theorem k_318 : (Jvm.Cond.fieldLink "SnapshotStore$Transaction" (58 : Nat) "SnapshotStore$Range" "low" "I") ∈ TT := tt_2 78 rfl rfl
theorem k_319 : (Jvm.Cond.fieldLink "SnapshotStore$Range" (13 : Nat) "SnapshotStore$Range" "high" "I") ∈ TT := tt_2 79 rfl rfl
theorem k_320 : (Jvm.Cond.fieldLink "SnapshotStore$Transaction" (63 : Nat) "SnapshotStore$Range" "high" "I") ∈ TT := tt_2 80 rfl rfl
theorem k_321 : (Jvm.Cond.fieldLink "SnapshotStore$Range" (16 : Nat) "SnapshotStore$Range" "earlier" "LSnapshotStore$Range;") ∈ TT := tt_2 81 rfl rfl
theorem k_322 : (Jvm.Cond.fieldLink "SnapshotStore$Transaction" (66 : Nat) "SnapshotStore$Range" "earlier" "LSnapshotStore$Range;") ∈ TT := tt_2 82 rfl rfl
theorem k_323 : (Jvm.Cond.laysFinal "SnapshotStore$Range" "SnapshotStore$Range" "low" "I") ∈ TT := tt_2 83 rfl rfl
theorem k_325 : (Jvm.Cond.laysFinal "SnapshotStore$Range" "SnapshotStore$Range" "high" "I") ∈ TT := tt_2 85 rfl rfl
theorem k_327 : (Jvm.Cond.laysFinal "SnapshotStore$Range" "SnapshotStore$Range" "earlier" "LSnapshotStore$Range;") ∈ TT := tt_2 87 rfl rfl
theorem k_330 : (Jvm.Cond.methodLink "SnapshotStore" (49 : Nat) ({ cls := "SnapshotStore", name := "seenBy", desc := "(LSnapshotStore$Transaction;LSnapshotStore$Key;)J" } : Jvm.MethodName)) ∈ TT := tt_2 90 rfl rfl
theorem k_331 : (Jvm.Cond.static ({ cls := "SnapshotStore", name := "seenBy", desc := "(LSnapshotStore$Transaction;LSnapshotStore$Key;)J" } : Jvm.MethodName)) ∈ TT := tt_2 91 rfl rfl
theorem k_332 : (Jvm.Cond.code ({ cls := "SnapshotStore", name := "seenBy", desc := "(LSnapshotStore$Transaction;LSnapshotStore$Key;)J" } : Jvm.MethodName) prog_1_method_29_code (3 : Nat) (Option.some Jvm.ClassFile.FieldType.long)) ∈ TT := tt_2 92 rfl rfl
theorem k_333 : (Jvm.Cond.methodLink "SnapshotStore" (221 : Nat) ({ cls := "SnapshotStore$Transaction", name := "writeOf", desc := "(I)LSnapshotStore$Write;" } : Jvm.MethodName)) ∈ TT := tt_2 93 rfl rfl
theorem k_334 : (Jvm.Cond.instanceMethod ({ cls := "SnapshotStore$Transaction", name := "writeOf", desc := "(I)LSnapshotStore$Write;" } : Jvm.MethodName)) ∈ TT := tt_2 94 rfl rfl
theorem k_335 : (Jvm.Cond.selects "SnapshotStore$Transaction" ({ cls := "SnapshotStore$Transaction", name := "writeOf", desc := "(I)LSnapshotStore$Write;" } : Jvm.MethodName) ({ cls := "SnapshotStore$Transaction", name := "writeOf", desc := "(I)LSnapshotStore$Write;" } : Jvm.MethodName)) ∈ TT := tt_2 95 rfl rfl
theorem k_336 : (Jvm.Cond.code ({ cls := "SnapshotStore$Transaction", name := "writeOf", desc := "(I)LSnapshotStore$Write;" } : Jvm.MethodName) prog_5_method_4_code (3 : Nat) (Option.some (Jvm.ClassFile.FieldType.object "SnapshotStore$Write"))) ∈ TT := tt_2 96 rfl rfl
theorem k_337 : (Jvm.Cond.methodLink "SnapshotStoreLaw" (74 : Nat) ({ cls := "SnapshotStoreLaw", name := "found", desc := "(LSnapshotStore;II[J)I" } : Jvm.MethodName)) ∈ TT := tt_2 97 rfl rfl
theorem k_338 : (Jvm.Cond.static ({ cls := "SnapshotStoreLaw", name := "found", desc := "(LSnapshotStore;II[J)I" } : Jvm.MethodName)) ∈ TT := tt_2 98 rfl rfl
theorem k_339 : (Jvm.Cond.codeWith ({ cls := "SnapshotStoreLaw", name := "found", desc := "(LSnapshotStore;II[J)I" } : Jvm.MethodName) method_5_code (5 : Nat) (Option.some Jvm.ClassFile.FieldType.int) [((0 : Nat), (17 : Nat), (20 : Nat), (21 : Nat)), ((0 : Nat), (17 : Nat), (24 : Nat), (15 : Nat))]) ∈ TT := tt_2 99 rfl rfl
theorem k_340 : (Jvm.Cond.methodLink "SnapshotStoreLaw" (23 : Nat) ({ cls := "SnapshotStore", name := "found", desc := "(II)Z" } : Jvm.MethodName)) ∈ TT := tt_2 100 rfl rfl
theorem k_341 : (Jvm.Cond.instanceMethod ({ cls := "SnapshotStore", name := "found", desc := "(II)Z" } : Jvm.MethodName)) ∈ TT := tt_2 101 rfl rfl
theorem k_342 : (Jvm.Cond.selects "SnapshotStore" ({ cls := "SnapshotStore", name := "found", desc := "(II)Z" } : Jvm.MethodName) ({ cls := "SnapshotStore", name := "found", desc := "(II)Z" } : Jvm.MethodName)) ∈ TT := tt_2 102 rfl rfl
theorem k_343 : (Jvm.Cond.code ({ cls := "SnapshotStore", name := "found", desc := "(II)Z" } : Jvm.MethodName) prog_1_method_4_code (4 : Nat) (Option.some Jvm.ClassFile.FieldType.boolean)) ∈ TT := tt_2 103 rfl rfl
theorem k_344 : (Jvm.Cond.methodLink "SnapshotStoreLaw" (77 : Nat) ({ cls := "SnapshotStoreLaw", name := "write", desc := "(LSnapshotStore;III[J)I" } : Jvm.MethodName)) ∈ TT := tt_2 104 rfl rfl
theorem k_345 : (Jvm.Cond.static ({ cls := "SnapshotStoreLaw", name := "write", desc := "(LSnapshotStore;III[J)I" } : Jvm.MethodName)) ∈ TT := tt_2 105 rfl rfl
theorem k_346 : (Jvm.Cond.codeWith ({ cls := "SnapshotStoreLaw", name := "write", desc := "(LSnapshotStore;III[J)I" } : Jvm.MethodName) method_6_code (6 : Nat) (Option.some Jvm.ClassFile.FieldType.int) [((0 : Nat), (12 : Nat), (15 : Nat), (21 : Nat)), ((0 : Nat), (12 : Nat), (19 : Nat), (15 : Nat))]) ∈ TT := tt_2 106 rfl rfl
theorem k_347 : (Jvm.Cond.methodLink "SnapshotStoreLaw" (27 : Nat) ({ cls := "SnapshotStore", name := "write", desc := "(III)I" } : Jvm.MethodName)) ∈ TT := tt_2 107 rfl rfl
theorem k_348 : (Jvm.Cond.instanceMethod ({ cls := "SnapshotStore", name := "write", desc := "(III)I" } : Jvm.MethodName)) ∈ TT := tt_2 108 rfl rfl
theorem k_349 : (Jvm.Cond.selects "SnapshotStore" ({ cls := "SnapshotStore", name := "write", desc := "(III)I" } : Jvm.MethodName) ({ cls := "SnapshotStore", name := "write", desc := "(III)I" } : Jvm.MethodName)) ∈ TT := tt_2 109 rfl rfl
theorem k_350 : (Jvm.Cond.code ({ cls := "SnapshotStore", name := "write", desc := "(III)I" } : Jvm.MethodName) prog_1_method_5_code (4 : Nat) (Option.some Jvm.ClassFile.FieldType.int)) ∈ TT := tt_2 110 rfl rfl
theorem k_351 : (Jvm.Cond.methodLink "SnapshotStore" (59 : Nat) ({ cls := "SnapshotStore", name := "put", desc := "(LSnapshotStore$Transaction;IJ)I" } : Jvm.MethodName)) ∈ TT := tt_2 111 rfl rfl
theorem k_353 : (Jvm.Cond.instanceMethod ({ cls := "SnapshotStore", name := "put", desc := "(LSnapshotStore$Transaction;IJ)I" } : Jvm.MethodName)) ∈ TT := tt_2 113 rfl rfl
theorem k_354 : (Jvm.Cond.code ({ cls := "SnapshotStore", name := "put", desc := "(LSnapshotStore$Transaction;IJ)I" } : Jvm.MethodName) prog_1_method_25_code (6 : Nat) (Option.some Jvm.ClassFile.FieldType.int)) ∈ TT := tt_2 114 rfl rfl
theorem k_355 : (Jvm.Cond.methodLink "SnapshotStore" (218 : Nat) ({ cls := "SnapshotStore", name := "placeKey", desc := "(I)V" } : Jvm.MethodName)) ∈ TT := tt_2 115 rfl rfl
theorem k_357 : (Jvm.Cond.instanceMethod ({ cls := "SnapshotStore", name := "placeKey", desc := "(I)V" } : Jvm.MethodName)) ∈ TT := tt_2 117 rfl rfl
theorem k_358 : (Jvm.Cond.code ({ cls := "SnapshotStore", name := "placeKey", desc := "(I)V" } : Jvm.MethodName) prog_1_method_27_code (3 : Nat) (Option.none : Option Jvm.ClassFile.FieldType)) ∈ TT := tt_2 118 rfl rfl
theorem k_359 : (Jvm.Cond.classLink "SnapshotStore" (68 : Nat) "SnapshotStore$Key") ∈ TT := tt_2 119 rfl rfl
theorem k_360 : (Jvm.Cond.instantiable "SnapshotStore$Key" (3 : Nat)) ∈ TT := tt_2 120 rfl rfl
theorem k_361 : (Jvm.Cond.methodLink "SnapshotStore" (233 : Nat) ({ cls := "SnapshotStore$Key", name := "<init>", desc := "(ILSnapshotStore$Key;)V" } : Jvm.MethodName)) ∈ TT := tt_2 121 rfl rfl
theorem k_362 : (Jvm.Cond.instanceMethod ({ cls := "SnapshotStore$Key", name := "<init>", desc := "(ILSnapshotStore$Key;)V" } : Jvm.MethodName)) ∈ TT := tt_2 122 rfl rfl
theorem k_363 : (Jvm.Cond.code ({ cls := "SnapshotStore$Key", name := "<init>", desc := "(ILSnapshotStore$Key;)V" } : Jvm.MethodName) prog_2_method_1_code (3 : Nat) (Option.none : Option Jvm.ClassFile.FieldType)) ∈ TT := tt_2 123 rfl rfl
theorem k_364 : (Jvm.Cond.methodLink "SnapshotStore$Key" (3 : Nat) ({ cls := "java/lang/Object", name := "<init>", desc := "()V" } : Jvm.MethodName)) ∈ TT := tt_2 124 rfl rfl
theorem k_365 : (Jvm.Cond.fieldLink "SnapshotStore$Key" (9 : Nat) "SnapshotStore$Key" "name" "I") ∈ TT := tt_2 125 rfl rfl
theorem k_366 : (Jvm.Cond.fieldLink "SnapshotStore" (67 : Nat) "SnapshotStore$Key" "name" "I") ∈ TT := tt_2 126 rfl rfl
theorem k_367 : (Jvm.Cond.fieldLink "SnapshotStore$Key" (15 : Nat) "SnapshotStore$Key" "next" "LSnapshotStore$Key;") ∈ TT := tt_2 127 rfl rfl
theorem k_368 : (Jvm.Cond.fieldLink "SnapshotStore" (72 : Nat) "SnapshotStore$Key" "next" "LSnapshotStore$Key;") ∈ TT := tt_2 128 rfl rfl
theorem k_369 : (Jvm.Cond.fieldLink "SnapshotStore$Key" (19 : Nat) "SnapshotStore$Key" "newest" "LSnapshotStore$Version;") ∈ TT := tt_2 129 rfl rfl
theorem k_370 : (Jvm.Cond.fieldLink "SnapshotStore" (156 : Nat) "SnapshotStore$Key" "newest" "LSnapshotStore$Version;") ∈ TT := tt_2 130 rfl rfl
theorem k_371 : (Jvm.Cond.laysFinal "SnapshotStore$Key" "SnapshotStore$Key" "name" "I") ∈ TT := tt_2 131 rfl rfl
theorem k_373 : (Jvm.Cond.lays "SnapshotStore$Key" "SnapshotStore$Key" "next" "LSnapshotStore$Key;") ∈ TT := tt_2 133 rfl rfl
theorem k_375 : (Jvm.Cond.lays "SnapshotStore$Key" "SnapshotStore$Key" "newest" "LSnapshotStore$Version;") ∈ TT := tt_2 135 rfl rfl
theorem k_378 : (Jvm.Cond.methodLink "SnapshotStore" (110 : Nat) ({ cls := "SnapshotStore$Transaction", name := "writtenKeys", desc := "()I" } : Jvm.MethodName)) ∈ TT := tt_2 138 rfl rfl
theorem k_379 : (Jvm.Cond.instanceMethod ({ cls := "SnapshotStore$Transaction", name := "writtenKeys", desc := "()I" } : Jvm.MethodName)) ∈ TT := tt_2 139 rfl rfl
theorem k_380 : (Jvm.Cond.selects "SnapshotStore$Transaction" ({ cls := "SnapshotStore$Transaction", name := "writtenKeys", desc := "()I" } : Jvm.MethodName) ({ cls := "SnapshotStore$Transaction", name := "writtenKeys", desc := "()I" } : Jvm.MethodName)) ∈ TT := tt_2 140 rfl rfl
theorem k_381 : (Jvm.Cond.code ({ cls := "SnapshotStore$Transaction", name := "writtenKeys", desc := "()I" } : Jvm.MethodName) prog_5_method_3_code (1 : Nat) (Option.some Jvm.ClassFile.FieldType.int)) ∈ TT := tt_2 141 rfl rfl
theorem k_382 : (Jvm.Cond.classLink "SnapshotStore" (225 : Nat) "SnapshotStore$Write") ∈ TT := tt_2 142 rfl rfl
theorem k_383 : (Jvm.Cond.instantiable "SnapshotStore$Write" (4 : Nat)) ∈ TT := tt_2 143 rfl rfl
theorem k_384 : (Jvm.Cond.methodLink "SnapshotStore" (227 : Nat) ({ cls := "SnapshotStore$Write", name := "<init>", desc := "(IJILSnapshotStore$Write;)V" } : Jvm.MethodName)) ∈ TT := tt_2 144 rfl rfl
theorem k_385 : (Jvm.Cond.instanceMethod ({ cls := "SnapshotStore$Write", name := "<init>", desc := "(IJILSnapshotStore$Write;)V" } : Jvm.MethodName)) ∈ TT := tt_2 145 rfl rfl
theorem k_386 : (Jvm.Cond.code ({ cls := "SnapshotStore$Write", name := "<init>", desc := "(IJILSnapshotStore$Write;)V" } : Jvm.MethodName) prog_7_method_1_code (6 : Nat) (Option.none : Option Jvm.ClassFile.FieldType)) ∈ TT := tt_2 146 rfl rfl
theorem k_387 : (Jvm.Cond.methodLink "SnapshotStore$Write" (1 : Nat) ({ cls := "java/lang/Object", name := "<init>", desc := "()V" } : Jvm.MethodName)) ∈ TT := tt_2 147 rfl rfl
theorem k_388 : (Jvm.Cond.fieldLink "SnapshotStore$Write" (7 : Nat) "SnapshotStore$Write" "name" "I") ∈ TT := tt_2 148 rfl rfl
theorem k_389 : (Jvm.Cond.fieldLink "SnapshotStore$Transaction" (37 : Nat) "SnapshotStore$Write" "name" "I") ∈ TT := tt_2 149 rfl rfl
theorem k_390 : (Jvm.Cond.fieldLink "SnapshotStore" (240 : Nat) "SnapshotStore$Write" "name" "I") ∈ TT := tt_2 150 rfl rfl
theorem k_391 : (Jvm.Cond.fieldLink "SnapshotStore$Write" (13 : Nat) "SnapshotStore$Write" "content" "J") ∈ TT := tt_2 151 rfl rfl
theorem k_392 : (Jvm.Cond.fieldLink "SnapshotStore" (236 : Nat) "SnapshotStore$Write" "content" "J") ∈ TT := tt_2 152 rfl rfl
theorem k_393 : (Jvm.Cond.fieldLink "SnapshotStore$Write" (17 : Nat) "SnapshotStore$Write" "keys" "I") ∈ TT := tt_2 153 rfl rfl
theorem k_394 : (Jvm.Cond.fieldLink "SnapshotStore$Transaction" (32 : Nat) "SnapshotStore$Write" "keys" "I") ∈ TT := tt_2 154 rfl rfl
theorem k_395 : (Jvm.Cond.fieldLink "SnapshotStore$Write" (20 : Nat) "SnapshotStore$Write" "earlier" "LSnapshotStore$Write;") ∈ TT := tt_2 155 rfl rfl
theorem k_396 : (Jvm.Cond.fieldLink "SnapshotStore$Transaction" (40 : Nat) "SnapshotStore$Write" "earlier" "LSnapshotStore$Write;") ∈ TT := tt_2 156 rfl rfl
theorem k_397 : (Jvm.Cond.fieldLink "SnapshotStore" (244 : Nat) "SnapshotStore$Write" "earlier" "LSnapshotStore$Write;") ∈ TT := tt_2 157 rfl rfl
theorem k_398 : (Jvm.Cond.laysFinal "SnapshotStore$Write" "SnapshotStore$Write" "name" "I") ∈ TT := tt_2 158 rfl rfl
theorem k_400 : (Jvm.Cond.laysFinal "SnapshotStore$Write" "SnapshotStore$Write" "content" "J") ∈ TT := tt_2 160 rfl rfl
theorem k_402 : (Jvm.Cond.laysFinal "SnapshotStore$Write" "SnapshotStore$Write" "keys" "I") ∈ TT := tt_2 162 rfl rfl
theorem k_404 : (Jvm.Cond.laysFinal "SnapshotStore$Write" "SnapshotStore$Write" "earlier" "LSnapshotStore$Write;") ∈ TT := tt_2 164 rfl rfl
theorem k_407 : (Jvm.Cond.methodLink "SnapshotStoreLaw" (81 : Nat) ({ cls := "SnapshotStoreLaw", name := "erase", desc := "(LSnapshotStore;II[J)I" } : Jvm.MethodName)) ∈ TT := tt_2 167 rfl rfl
theorem k_408 : (Jvm.Cond.static ({ cls := "SnapshotStoreLaw", name := "erase", desc := "(LSnapshotStore;II[J)I" } : Jvm.MethodName)) ∈ TT := tt_2 168 rfl rfl
theorem k_409 : (Jvm.Cond.codeWith ({ cls := "SnapshotStoreLaw", name := "erase", desc := "(LSnapshotStore;II[J)I" } : Jvm.MethodName) method_7_code (5 : Nat) (Option.some Jvm.ClassFile.FieldType.int) [((0 : Nat), (10 : Nat), (13 : Nat), (21 : Nat)), ((0 : Nat), (10 : Nat), (17 : Nat), (15 : Nat))]) ∈ TT := tt_2 169 rfl rfl
theorem k_410 : (Jvm.Cond.methodLink "SnapshotStoreLaw" (31 : Nat) ({ cls := "SnapshotStore", name := "erase", desc := "(II)I" } : Jvm.MethodName)) ∈ TT := tt_2 170 rfl rfl
theorem k_411 : (Jvm.Cond.instanceMethod ({ cls := "SnapshotStore", name := "erase", desc := "(II)I" } : Jvm.MethodName)) ∈ TT := tt_2 171 rfl rfl
theorem k_412 : (Jvm.Cond.selects "SnapshotStore" ({ cls := "SnapshotStore", name := "erase", desc := "(II)I" } : Jvm.MethodName) ({ cls := "SnapshotStore", name := "erase", desc := "(II)I" } : Jvm.MethodName)) ∈ TT := tt_2 172 rfl rfl
theorem k_413 : (Jvm.Cond.code ({ cls := "SnapshotStore", name := "erase", desc := "(II)I" } : Jvm.MethodName) prog_1_method_6_code (3 : Nat) (Option.some Jvm.ClassFile.FieldType.int)) ∈ TT := tt_2 173 rfl rfl
theorem k_414 : (Jvm.Cond.methodLink "SnapshotStoreLaw" (84 : Nat) ({ cls := "SnapshotStoreLaw", name := "sum", desc := "(LSnapshotStore;III[J)I" } : Jvm.MethodName)) ∈ TT := tt_2 174 rfl rfl
theorem k_415 : (Jvm.Cond.static ({ cls := "SnapshotStoreLaw", name := "sum", desc := "(LSnapshotStore;III[J)I" } : Jvm.MethodName)) ∈ TT := tt_2 175 rfl rfl
theorem k_416 : (Jvm.Cond.codeWith ({ cls := "SnapshotStoreLaw", name := "sum", desc := "(LSnapshotStore;III[J)I" } : Jvm.MethodName) method_8_code (6 : Nat) (Option.some Jvm.ClassFile.FieldType.int) [((0 : Nat), (11 : Nat), (14 : Nat), (21 : Nat)), ((0 : Nat), (11 : Nat), (18 : Nat), (15 : Nat))]) ∈ TT := tt_2 176 rfl rfl
theorem k_417 : (Jvm.Cond.methodLink "SnapshotStoreLaw" (34 : Nat) ({ cls := "SnapshotStore", name := "sum", desc := "(III)J" } : Jvm.MethodName)) ∈ TT := tt_2 177 rfl rfl
theorem k_418 : (Jvm.Cond.instanceMethod ({ cls := "SnapshotStore", name := "sum", desc := "(III)J" } : Jvm.MethodName)) ∈ TT := tt_2 178 rfl rfl
theorem k_419 : (Jvm.Cond.selects "SnapshotStore" ({ cls := "SnapshotStore", name := "sum", desc := "(III)J" } : Jvm.MethodName) ({ cls := "SnapshotStore", name := "sum", desc := "(III)J" } : Jvm.MethodName)) ∈ TT := tt_2 179 rfl rfl
theorem k_420 : (Jvm.Cond.code ({ cls := "SnapshotStore", name := "sum", desc := "(III)J" } : Jvm.MethodName) prog_1_method_7_code (8 : Nat) (Option.some Jvm.ClassFile.FieldType.long)) ∈ TT := tt_2 180 rfl rfl
theorem k_421 : (Jvm.Cond.methodLink "SnapshotStoreLaw" (87 : Nat) ({ cls := "SnapshotStoreLaw", name := "key", desc := "(LSnapshotStore;III[J)I" } : Jvm.MethodName)) ∈ TT := tt_2 181 rfl rfl
theorem k_422 : (Jvm.Cond.static ({ cls := "SnapshotStoreLaw", name := "key", desc := "(LSnapshotStore;III[J)I" } : Jvm.MethodName)) ∈ TT := tt_2 182 rfl rfl
theorem k_423 : (Jvm.Cond.codeWith ({ cls := "SnapshotStoreLaw", name := "key", desc := "(LSnapshotStore;III[J)I" } : Jvm.MethodName) method_9_code (6 : Nat) (Option.some Jvm.ClassFile.FieldType.int) [((0 : Nat), (11 : Nat), (14 : Nat), (21 : Nat)), ((0 : Nat), (11 : Nat), (18 : Nat), (15 : Nat)), ((0 : Nat), (11 : Nat), (22 : Nat), (13 : Nat))]) ∈ TT := tt_2 183 rfl rfl
theorem k_424 : (Jvm.Cond.methodLink "SnapshotStoreLaw" (38 : Nat) ({ cls := "SnapshotStore", name := "key", desc := "(III)J" } : Jvm.MethodName)) ∈ TT := tt_2 184 rfl rfl
theorem k_425 : (Jvm.Cond.instanceMethod ({ cls := "SnapshotStore", name := "key", desc := "(III)J" } : Jvm.MethodName)) ∈ TT := tt_2 185 rfl rfl
theorem k_426 : (Jvm.Cond.selects "SnapshotStore" ({ cls := "SnapshotStore", name := "key", desc := "(III)J" } : Jvm.MethodName) ({ cls := "SnapshotStore", name := "key", desc := "(III)J" } : Jvm.MethodName)) ∈ TT := tt_2 186 rfl rfl
theorem k_427 : (Jvm.Cond.code ({ cls := "SnapshotStore", name := "key", desc := "(III)J" } : Jvm.MethodName) prog_1_method_8_code (6 : Nat) (Option.some Jvm.ClassFile.FieldType.long)) ∈ TT := tt_2 187 rfl rfl
theorem k_429 : (Jvm.Cond.methodLink "SnapshotStore" (77 : Nat) ({ cls := "SnapshotStore", name := "seenKey", desc := "(LSnapshotStore$Transaction;II)LSnapshotStore$Key;" } : Jvm.MethodName)) ∈ TT := tt_2 189 rfl rfl
theorem k_431 : (Jvm.Cond.instanceMethod ({ cls := "SnapshotStore", name := "seenKey", desc := "(LSnapshotStore$Transaction;II)LSnapshotStore$Key;" } : Jvm.MethodName)) ∈ TT := tt_2 191 rfl rfl
theorem k_432 : (Jvm.Cond.code ({ cls := "SnapshotStore", name := "seenKey", desc := "(LSnapshotStore$Transaction;II)LSnapshotStore$Key;" } : Jvm.MethodName) prog_1_method_31_code (6 : Nat) (Option.some (Jvm.ClassFile.FieldType.object "SnapshotStore$Key"))) ∈ TT := tt_2 192 rfl rfl
theorem k_433 : (Jvm.Cond.methodLink "SnapshotStoreLaw" (90 : Nat) ({ cls := "SnapshotStoreLaw", name := "save", desc := "(LSnapshotStore;I[J)I" } : Jvm.MethodName)) ∈ TT := tt_2 193 rfl rfl
theorem k_434 : (Jvm.Cond.static ({ cls := "SnapshotStoreLaw", name := "save", desc := "(LSnapshotStore;I[J)I" } : Jvm.MethodName)) ∈ TT := tt_2 194 rfl rfl
theorem k_435 : (Jvm.Cond.codeWith ({ cls := "SnapshotStoreLaw", name := "save", desc := "(LSnapshotStore;I[J)I" } : Jvm.MethodName) method_10_code (4 : Nat) (Option.some Jvm.ClassFile.FieldType.int) [((0 : Nat), (9 : Nat), (12 : Nat), (21 : Nat)), ((0 : Nat), (9 : Nat), (15 : Nat), (15 : Nat))]) ∈ TT := tt_2 195 rfl rfl
theorem k_436 : (Jvm.Cond.methodLink "SnapshotStoreLaw" (41 : Nat) ({ cls := "SnapshotStore", name := "save", desc := "(I)I" } : Jvm.MethodName)) ∈ TT := tt_2 196 rfl rfl
theorem k_437 : (Jvm.Cond.instanceMethod ({ cls := "SnapshotStore", name := "save", desc := "(I)I" } : Jvm.MethodName)) ∈ TT := tt_2 197 rfl rfl
theorem k_438 : (Jvm.Cond.selects "SnapshotStore" ({ cls := "SnapshotStore", name := "save", desc := "(I)I" } : Jvm.MethodName) ({ cls := "SnapshotStore", name := "save", desc := "(I)I" } : Jvm.MethodName)) ∈ TT := tt_2 198 rfl rfl
theorem k_439 : (Jvm.Cond.code ({ cls := "SnapshotStore", name := "save", desc := "(I)I" } : Jvm.MethodName) prog_1_method_9_code (4 : Nat) (Option.some Jvm.ClassFile.FieldType.int)) ∈ TT := tt_2 199 rfl rfl
theorem k_440 : (Jvm.Cond.methodLink "SnapshotStore" (84 : Nat) ({ cls := "SnapshotStore$Transaction", name := "placeCount", desc := "()I" } : Jvm.MethodName)) ∈ TT := tt_2 200 rfl rfl
theorem k_441 : (Jvm.Cond.instanceMethod ({ cls := "SnapshotStore$Transaction", name := "placeCount", desc := "()I" } : Jvm.MethodName)) ∈ TT := tt_2 201 rfl rfl
theorem k_442 : (Jvm.Cond.selects "SnapshotStore$Transaction" ({ cls := "SnapshotStore$Transaction", name := "placeCount", desc := "()I" } : Jvm.MethodName) ({ cls := "SnapshotStore$Transaction", name := "placeCount", desc := "()I" } : Jvm.MethodName)) ∈ TT := tt_2 202 rfl rfl
theorem k_443 : (Jvm.Cond.code ({ cls := "SnapshotStore$Transaction", name := "placeCount", desc := "()I" } : Jvm.MethodName) prog_5_method_5_code (1 : Nat) (Option.some Jvm.ClassFile.FieldType.int)) ∈ TT := tt_2 203 rfl rfl
theorem k_445 : (Jvm.Cond.classLink "SnapshotStore" (90 : Nat) "SnapshotStore$Place") ∈ TT := tt_2 205 rfl rfl
theorem k_446 : (Jvm.Cond.instantiable "SnapshotStore$Place" (3 : Nat)) ∈ TT := tt_2 206 rfl rfl
theorem k_447 : (Jvm.Cond.methodLink "SnapshotStore" (100 : Nat) ({ cls := "SnapshotStore$Place", name := "<init>", desc := "(ILSnapshotStore$Write;LSnapshotStore$Place;)V" } : Jvm.MethodName)) ∈ TT := tt_2 207 rfl rfl
theorem k_448 : (Jvm.Cond.instanceMethod ({ cls := "SnapshotStore$Place", name := "<init>", desc := "(ILSnapshotStore$Write;LSnapshotStore$Place;)V" } : Jvm.MethodName)) ∈ TT := tt_2 208 rfl rfl
theorem k_449 : (Jvm.Cond.code ({ cls := "SnapshotStore$Place", name := "<init>", desc := "(ILSnapshotStore$Write;LSnapshotStore$Place;)V" } : Jvm.MethodName) prog_3_method_1_code (4 : Nat) (Option.none : Option Jvm.ClassFile.FieldType)) ∈ TT := tt_2 209 rfl rfl
theorem k_450 : (Jvm.Cond.methodLink "SnapshotStore$Place" (1 : Nat) ({ cls := "java/lang/Object", name := "<init>", desc := "()V" } : Jvm.MethodName)) ∈ TT := tt_2 210 rfl rfl
theorem k_451 : (Jvm.Cond.fieldLink "SnapshotStore$Place" (7 : Nat) "SnapshotStore$Place" "number" "I") ∈ TT := tt_2 211 rfl rfl
theorem k_452 : (Jvm.Cond.fieldLink "SnapshotStore$Transaction" (43 : Nat) "SnapshotStore$Place" "number" "I") ∈ TT := tt_2 212 rfl rfl
theorem k_453 : (Jvm.Cond.fieldLink "SnapshotStore$Place" (13 : Nat) "SnapshotStore$Place" "latest" "LSnapshotStore$Write;") ∈ TT := tt_2 213 rfl rfl
theorem k_454 : (Jvm.Cond.fieldLink "SnapshotStore" (109 : Nat) "SnapshotStore$Place" "latest" "LSnapshotStore$Write;") ∈ TT := tt_2 214 rfl rfl
theorem k_455 : (Jvm.Cond.fieldLink "SnapshotStore$Place" (17 : Nat) "SnapshotStore$Place" "earlier" "LSnapshotStore$Place;") ∈ TT := tt_2 215 rfl rfl
theorem k_456 : (Jvm.Cond.fieldLink "SnapshotStore$Transaction" (48 : Nat) "SnapshotStore$Place" "earlier" "LSnapshotStore$Place;") ∈ TT := tt_2 216 rfl rfl
theorem k_457 : (Jvm.Cond.laysFinal "SnapshotStore$Place" "SnapshotStore$Place" "number" "I") ∈ TT := tt_2 217 rfl rfl
theorem k_459 : (Jvm.Cond.laysFinal "SnapshotStore$Place" "SnapshotStore$Place" "latest" "LSnapshotStore$Write;") ∈ TT := tt_2 219 rfl rfl
theorem k_461 : (Jvm.Cond.laysFinal "SnapshotStore$Place" "SnapshotStore$Place" "earlier" "LSnapshotStore$Place;") ∈ TT := tt_2 221 rfl rfl
theorem k_464 : (Jvm.Cond.methodLink "SnapshotStoreLaw" (93 : Nat) ({ cls := "SnapshotStoreLaw", name := "back", desc := "(LSnapshotStore;II[J)I" } : Jvm.MethodName)) ∈ TT := tt_2 224 rfl rfl
theorem k_465 : (Jvm.Cond.static ({ cls := "SnapshotStoreLaw", name := "back", desc := "(LSnapshotStore;II[J)I" } : Jvm.MethodName)) ∈ TT := tt_2 225 rfl rfl
theorem k_466 : (Jvm.Cond.codeWith ({ cls := "SnapshotStoreLaw", name := "back", desc := "(LSnapshotStore;II[J)I" } : Jvm.MethodName) method_11_code (5 : Nat) (Option.some Jvm.ClassFile.FieldType.int) [((0 : Nat), (10 : Nat), (13 : Nat), (21 : Nat)), ((0 : Nat), (10 : Nat), (17 : Nat), (15 : Nat)), ((0 : Nat), (10 : Nat), (21 : Nat), (13 : Nat))]) ∈ TT := tt_2 226 rfl rfl
theorem k_467 : (Jvm.Cond.methodLink "SnapshotStoreLaw" (44 : Nat) ({ cls := "SnapshotStore", name := "back", desc := "(II)I" } : Jvm.MethodName)) ∈ TT := tt_2 227 rfl rfl
theorem k_468 : (Jvm.Cond.instanceMethod ({ cls := "SnapshotStore", name := "back", desc := "(II)I" } : Jvm.MethodName)) ∈ TT := tt_2 228 rfl rfl
theorem k_469 : (Jvm.Cond.selects "SnapshotStore" ({ cls := "SnapshotStore", name := "back", desc := "(II)I" } : Jvm.MethodName) ({ cls := "SnapshotStore", name := "back", desc := "(II)I" } : Jvm.MethodName)) ∈ TT := tt_2 229 rfl rfl
theorem k_470 : (Jvm.Cond.code ({ cls := "SnapshotStore", name := "back", desc := "(II)I" } : Jvm.MethodName) prog_1_method_10_code (5 : Nat) (Option.some Jvm.ClassFile.FieldType.int)) ∈ TT := tt_2 230 rfl rfl
theorem k_471 : (Jvm.Cond.methodLink "SnapshotStore" (103 : Nat) ({ cls := "SnapshotStore$Transaction", name := "placeNumbered", desc := "(I)LSnapshotStore$Place;" } : Jvm.MethodName)) ∈ TT := tt_2 231 rfl rfl
theorem k_472 : (Jvm.Cond.instanceMethod ({ cls := "SnapshotStore$Transaction", name := "placeNumbered", desc := "(I)LSnapshotStore$Place;" } : Jvm.MethodName)) ∈ TT := tt_2 232 rfl rfl
theorem k_473 : (Jvm.Cond.selects "SnapshotStore$Transaction" ({ cls := "SnapshotStore$Transaction", name := "placeNumbered", desc := "(I)LSnapshotStore$Place;" } : Jvm.MethodName) ({ cls := "SnapshotStore$Transaction", name := "placeNumbered", desc := "(I)LSnapshotStore$Place;" } : Jvm.MethodName)) ∈ TT := tt_2 233 rfl rfl
theorem k_474 : (Jvm.Cond.code ({ cls := "SnapshotStore$Transaction", name := "placeNumbered", desc := "(I)LSnapshotStore$Place;" } : Jvm.MethodName) prog_5_method_6_code (3 : Nat) (Option.some (Jvm.ClassFile.FieldType.object "SnapshotStore$Place"))) ∈ TT := tt_2 234 rfl rfl
theorem k_476 : (Jvm.Cond.methodLink "SnapshotStoreLaw" (96 : Nat) ({ cls := "SnapshotStoreLaw", name := "commit", desc := "(LSnapshotStore;I[J)I" } : Jvm.MethodName)) ∈ TT := tt_2 236 rfl rfl
theorem k_477 : (Jvm.Cond.static ({ cls := "SnapshotStoreLaw", name := "commit", desc := "(LSnapshotStore;I[J)I" } : Jvm.MethodName)) ∈ TT := tt_2 237 rfl rfl
theorem k_478 : (Jvm.Cond.codeWith ({ cls := "SnapshotStoreLaw", name := "commit", desc := "(LSnapshotStore;I[J)I" } : Jvm.MethodName) method_12_code (4 : Nat) (Option.some Jvm.ClassFile.FieldType.int) [((0 : Nat), (9 : Nat), (12 : Nat), (21 : Nat)), ((0 : Nat), (9 : Nat), (15 : Nat), (15 : Nat))]) ∈ TT := tt_2 238 rfl rfl
theorem k_479 : (Jvm.Cond.methodLink "SnapshotStoreLaw" (47 : Nat) ({ cls := "SnapshotStore", name := "commit", desc := "(I)I" } : Jvm.MethodName)) ∈ TT := tt_2 239 rfl rfl
theorem k_480 : (Jvm.Cond.instanceMethod ({ cls := "SnapshotStore", name := "commit", desc := "(I)I" } : Jvm.MethodName)) ∈ TT := tt_3 0 rfl rfl
theorem k_481 : (Jvm.Cond.selects "SnapshotStore" ({ cls := "SnapshotStore", name := "commit", desc := "(I)I" } : Jvm.MethodName) ({ cls := "SnapshotStore", name := "commit", desc := "(I)I" } : Jvm.MethodName)) ∈ TT := tt_3 1 rfl rfl
theorem k_482 : (Jvm.Cond.code ({ cls := "SnapshotStore", name := "commit", desc := "(I)I" } : Jvm.MethodName) prog_1_method_11_code (4 : Nat) (Option.some Jvm.ClassFile.FieldType.int)) ∈ TT := tt_3 2 rfl rfl
theorem k_483 : (Jvm.Cond.methodLink "SnapshotStore" (113 : Nat) ({ cls := "SnapshotStore", name := "hasConflict", desc := "(LSnapshotStore$Transaction;)Z" } : Jvm.MethodName)) ∈ TT := tt_3 3 rfl rfl
theorem k_485 : (Jvm.Cond.instanceMethod ({ cls := "SnapshotStore", name := "hasConflict", desc := "(LSnapshotStore$Transaction;)Z" } : Jvm.MethodName)) ∈ TT := tt_3 5 rfl rfl
theorem k_486 : (Jvm.Cond.code ({ cls := "SnapshotStore", name := "hasConflict", desc := "(LSnapshotStore$Transaction;)Z" } : Jvm.MethodName) prog_1_method_32_code (4 : Nat) (Option.some Jvm.ClassFile.FieldType.boolean)) ∈ TT := tt_3 6 rfl rfl
theorem k_487 : (Jvm.Cond.methodLink "SnapshotStore" (124 : Nat) ({ cls := "SnapshotStore", name := "hasAfter", desc := "(LSnapshotStore$Transaction;Z)Z" } : Jvm.MethodName)) ∈ TT := tt_3 7 rfl rfl
theorem k_489 : (Jvm.Cond.instanceMethod ({ cls := "SnapshotStore", name := "hasAfter", desc := "(LSnapshotStore$Transaction;Z)Z" } : Jvm.MethodName)) ∈ TT := tt_3 9 rfl rfl
theorem k_490 : (Jvm.Cond.code ({ cls := "SnapshotStore", name := "hasAfter", desc := "(LSnapshotStore$Transaction;Z)Z" } : Jvm.MethodName) prog_1_method_33_code (7 : Nat) (Option.some Jvm.ClassFile.FieldType.boolean)) ∈ TT := tt_3 10 rfl rfl
theorem k_491 : (Jvm.Cond.methodLink "SnapshotStore" (247 : Nat) ({ cls := "SnapshotStore$Transaction", name := "committedAbove", desc := "(I)Z" } : Jvm.MethodName)) ∈ TT := tt_3 11 rfl rfl
theorem k_492 : (Jvm.Cond.instanceMethod ({ cls := "SnapshotStore$Transaction", name := "committedAbove", desc := "(I)Z" } : Jvm.MethodName)) ∈ TT := tt_3 12 rfl rfl
theorem k_493 : (Jvm.Cond.selects "SnapshotStore$Transaction" ({ cls := "SnapshotStore$Transaction", name := "committedAbove", desc := "(I)Z" } : Jvm.MethodName) ({ cls := "SnapshotStore$Transaction", name := "committedAbove", desc := "(I)Z" } : Jvm.MethodName)) ∈ TT := tt_3 13 rfl rfl
theorem k_494 : (Jvm.Cond.code ({ cls := "SnapshotStore$Transaction", name := "committedAbove", desc := "(I)Z" } : Jvm.MethodName) prog_5_method_7_code (2 : Nat) (Option.some Jvm.ClassFile.FieldType.boolean)) ∈ TT := tt_3 14 rfl rfl
theorem k_495 : (Jvm.Cond.methodLink "SnapshotStore" (250 : Nat) ({ cls := "SnapshotStore$Transaction", name := "hasReadAnyOf", desc := "(LSnapshotStore$Write;)Z" } : Jvm.MethodName)) ∈ TT := tt_3 15 rfl rfl
theorem k_496 : (Jvm.Cond.instanceMethod ({ cls := "SnapshotStore$Transaction", name := "hasReadAnyOf", desc := "(LSnapshotStore$Write;)Z" } : Jvm.MethodName)) ∈ TT := tt_3 16 rfl rfl
theorem k_497 : (Jvm.Cond.selects "SnapshotStore$Transaction" ({ cls := "SnapshotStore$Transaction", name := "hasReadAnyOf", desc := "(LSnapshotStore$Write;)Z" } : Jvm.MethodName) ({ cls := "SnapshotStore$Transaction", name := "hasReadAnyOf", desc := "(LSnapshotStore$Write;)Z" } : Jvm.MethodName)) ∈ TT := tt_3 17 rfl rfl
theorem k_498 : (Jvm.Cond.code ({ cls := "SnapshotStore$Transaction", name := "hasReadAnyOf", desc := "(LSnapshotStore$Write;)Z" } : Jvm.MethodName) prog_5_method_8_code (3 : Nat) (Option.some Jvm.ClassFile.FieldType.boolean)) ∈ TT := tt_3 18 rfl rfl
theorem k_499 : (Jvm.Cond.methodLink "SnapshotStore$Transaction" (50 : Nat) ({ cls := "SnapshotStore$Transaction", name := "hasRead", desc := "(I)Z" } : Jvm.MethodName)) ∈ TT := tt_3 19 rfl rfl
theorem k_500 : (Jvm.Cond.instanceMethod ({ cls := "SnapshotStore$Transaction", name := "hasRead", desc := "(I)Z" } : Jvm.MethodName)) ∈ TT := tt_3 20 rfl rfl
theorem k_501 : (Jvm.Cond.selects "SnapshotStore$Transaction" ({ cls := "SnapshotStore$Transaction", name := "hasRead", desc := "(I)Z" } : Jvm.MethodName) ({ cls := "SnapshotStore$Transaction", name := "hasRead", desc := "(I)Z" } : Jvm.MethodName)) ∈ TT := tt_3 21 rfl rfl
theorem k_502 : (Jvm.Cond.code ({ cls := "SnapshotStore$Transaction", name := "hasRead", desc := "(I)Z" } : Jvm.MethodName) prog_5_method_9_code (3 : Nat) (Option.some Jvm.ClassFile.FieldType.boolean)) ∈ TT := tt_3 22 rfl rfl
theorem k_503 : (Jvm.Cond.methodLink "SnapshotStore" (128 : Nat) ({ cls := "SnapshotStore", name := "hasBefore", desc := "(LSnapshotStore$Transaction;)Z" } : Jvm.MethodName)) ∈ TT := tt_3 23 rfl rfl
theorem k_505 : (Jvm.Cond.instanceMethod ({ cls := "SnapshotStore", name := "hasBefore", desc := "(LSnapshotStore$Transaction;)Z" } : Jvm.MethodName)) ∈ TT := tt_3 25 rfl rfl
theorem k_506 : (Jvm.Cond.code ({ cls := "SnapshotStore", name := "hasBefore", desc := "(LSnapshotStore$Transaction;)Z" } : Jvm.MethodName) prog_1_method_34_code (6 : Nat) (Option.some Jvm.ClassFile.FieldType.boolean)) ∈ TT := tt_3 26 rfl rfl
theorem k_507 : (Jvm.Cond.methodLink "SnapshotStore" (131 : Nat) ({ cls := "SnapshotStore", name := "addVersions", desc := "(LSnapshotStore$Transaction;)V" } : Jvm.MethodName)) ∈ TT := tt_3 27 rfl rfl
theorem k_509 : (Jvm.Cond.instanceMethod ({ cls := "SnapshotStore", name := "addVersions", desc := "(LSnapshotStore$Transaction;)V" } : Jvm.MethodName)) ∈ TT := tt_3 29 rfl rfl
theorem k_510 : (Jvm.Cond.code ({ cls := "SnapshotStore", name := "addVersions", desc := "(LSnapshotStore$Transaction;)V" } : Jvm.MethodName) prog_1_method_35_code (4 : Nat) (Option.none : Option Jvm.ClassFile.FieldType)) ∈ TT := tt_3 30 rfl rfl
theorem k_511 : (Jvm.Cond.classLink "SnapshotStore" (242 : Nat) "SnapshotStore$Version") ∈ TT := tt_3 31 rfl rfl
theorem k_512 : (Jvm.Cond.instantiable "SnapshotStore$Version" (3 : Nat)) ∈ TT := tt_3 32 rfl rfl
theorem k_513 : (Jvm.Cond.methodLink "SnapshotStore" (254 : Nat) ({ cls := "SnapshotStore$Version", name := "<init>", desc := "(IJLSnapshotStore$Version;)V" } : Jvm.MethodName)) ∈ TT := tt_3 33 rfl rfl
theorem k_514 : (Jvm.Cond.instanceMethod ({ cls := "SnapshotStore$Version", name := "<init>", desc := "(IJLSnapshotStore$Version;)V" } : Jvm.MethodName)) ∈ TT := tt_3 34 rfl rfl
theorem k_515 : (Jvm.Cond.code ({ cls := "SnapshotStore$Version", name := "<init>", desc := "(IJLSnapshotStore$Version;)V" } : Jvm.MethodName) prog_6_method_1_code (5 : Nat) (Option.none : Option Jvm.ClassFile.FieldType)) ∈ TT := tt_3 35 rfl rfl
theorem k_516 : (Jvm.Cond.methodLink "SnapshotStore$Version" (1 : Nat) ({ cls := "java/lang/Object", name := "<init>", desc := "()V" } : Jvm.MethodName)) ∈ TT := tt_3 36 rfl rfl
theorem k_517 : (Jvm.Cond.fieldLink "SnapshotStore$Version" (7 : Nat) "SnapshotStore$Version" "stamp" "I") ∈ TT := tt_3 37 rfl rfl
theorem k_518 : (Jvm.Cond.fieldLink "SnapshotStore$Key" (23 : Nat) "SnapshotStore$Version" "stamp" "I") ∈ TT := tt_3 38 rfl rfl
theorem k_519 : (Jvm.Cond.fieldLink "SnapshotStore" (241 : Nat) "SnapshotStore$Version" "stamp" "I") ∈ TT := tt_3 39 rfl rfl
theorem k_520 : (Jvm.Cond.fieldLink "SnapshotStore$Version" (13 : Nat) "SnapshotStore$Version" "content" "J") ∈ TT := tt_3 40 rfl rfl
theorem k_521 : (Jvm.Cond.fieldLink "SnapshotStore$Key" (37 : Nat) "SnapshotStore$Version" "content" "J") ∈ TT := tt_3 41 rfl rfl
theorem k_522 : (Jvm.Cond.fieldLink "SnapshotStore" (268 : Nat) "SnapshotStore$Version" "content" "J") ∈ TT := tt_3 42 rfl rfl
theorem k_523 : (Jvm.Cond.fieldLink "SnapshotStore$Version" (17 : Nat) "SnapshotStore$Version" "older" "LSnapshotStore$Version;") ∈ TT := tt_3 43 rfl rfl
theorem k_524 : (Jvm.Cond.fieldLink "SnapshotStore$Key" (28 : Nat) "SnapshotStore$Version" "older" "LSnapshotStore$Version;") ∈ TT := tt_3 44 rfl rfl
theorem k_525 : (Jvm.Cond.fieldLink "SnapshotStore" (265 : Nat) "SnapshotStore$Version" "older" "LSnapshotStore$Version;") ∈ TT := tt_3 45 rfl rfl
theorem k_526 : (Jvm.Cond.laysFinal "SnapshotStore$Version" "SnapshotStore$Version" "stamp" "I") ∈ TT := tt_3 46 rfl rfl
theorem k_528 : (Jvm.Cond.laysFinal "SnapshotStore$Version" "SnapshotStore$Version" "content" "J") ∈ TT := tt_3 48 rfl rfl
theorem k_530 : (Jvm.Cond.lays "SnapshotStore$Version" "SnapshotStore$Version" "older" "LSnapshotStore$Version;") ∈ TT := tt_3 50 rfl rfl
theorem k_533 : (Jvm.Cond.methodLink "SnapshotStoreLaw" (99 : Nat) ({ cls := "SnapshotStoreLaw", name := "abort", desc := "(LSnapshotStore;I[J)I" } : Jvm.MethodName)) ∈ TT := tt_3 53 rfl rfl
theorem k_534 : (Jvm.Cond.static ({ cls := "SnapshotStoreLaw", name := "abort", desc := "(LSnapshotStore;I[J)I" } : Jvm.MethodName)) ∈ TT := tt_3 54 rfl rfl
theorem k_535 : (Jvm.Cond.codeWith ({ cls := "SnapshotStoreLaw", name := "abort", desc := "(LSnapshotStore;I[J)I" } : Jvm.MethodName) method_13_code (4 : Nat) (Option.some Jvm.ClassFile.FieldType.int) [((0 : Nat), (9 : Nat), (12 : Nat), (21 : Nat)), ((0 : Nat), (9 : Nat), (15 : Nat), (15 : Nat))]) ∈ TT := tt_3 55 rfl rfl
theorem k_536 : (Jvm.Cond.methodLink "SnapshotStoreLaw" (50 : Nat) ({ cls := "SnapshotStore", name := "abort", desc := "(I)I" } : Jvm.MethodName)) ∈ TT := tt_3 56 rfl rfl
theorem k_537 : (Jvm.Cond.instanceMethod ({ cls := "SnapshotStore", name := "abort", desc := "(I)I" } : Jvm.MethodName)) ∈ TT := tt_3 57 rfl rfl
theorem k_538 : (Jvm.Cond.selects "SnapshotStore" ({ cls := "SnapshotStore", name := "abort", desc := "(I)I" } : Jvm.MethodName) ({ cls := "SnapshotStore", name := "abort", desc := "(I)I" } : Jvm.MethodName)) ∈ TT := tt_3 58 rfl rfl
theorem k_539 : (Jvm.Cond.code ({ cls := "SnapshotStore", name := "abort", desc := "(I)I" } : Jvm.MethodName) prog_1_method_12_code (3 : Nat) (Option.some Jvm.ClassFile.FieldType.int)) ∈ TT := tt_3 59 rfl rfl
theorem k_540 : (Jvm.Cond.methodLink "SnapshotStoreLaw" (114 : Nat) ({ cls := "SnapshotStoreLaw", name := "told", desc := "(LSnapshotStore;II[J)I" } : Jvm.MethodName)) ∈ TT := tt_3 60 rfl rfl
theorem k_541 : (Jvm.Cond.static ({ cls := "SnapshotStoreLaw", name := "told", desc := "(LSnapshotStore;II[J)I" } : Jvm.MethodName)) ∈ TT := tt_3 61 rfl rfl
theorem k_542 : (Jvm.Cond.codeWith ({ cls := "SnapshotStoreLaw", name := "told", desc := "(LSnapshotStore;II[J)I" } : Jvm.MethodName) method_14_code (5 : Nat) (Option.some Jvm.ClassFile.FieldType.int) [((0 : Nat), (10 : Nat), (13 : Nat), (21 : Nat)), ((0 : Nat), (10 : Nat), (17 : Nat), (13 : Nat))]) ∈ TT := tt_3 62 rfl rfl
theorem k_543 : (Jvm.Cond.methodLink "SnapshotStoreLaw" (53 : Nat) ({ cls := "SnapshotStore", name := "told", desc := "(II)I" } : Jvm.MethodName)) ∈ TT := tt_3 63 rfl rfl
theorem k_544 : (Jvm.Cond.instanceMethod ({ cls := "SnapshotStore", name := "told", desc := "(II)I" } : Jvm.MethodName)) ∈ TT := tt_3 64 rfl rfl
theorem k_545 : (Jvm.Cond.selects "SnapshotStore" ({ cls := "SnapshotStore", name := "told", desc := "(II)I" } : Jvm.MethodName) ({ cls := "SnapshotStore", name := "told", desc := "(II)I" } : Jvm.MethodName)) ∈ TT := tt_3 65 rfl rfl
theorem k_546 : (Jvm.Cond.code ({ cls := "SnapshotStore", name := "told", desc := "(II)I" } : Jvm.MethodName) prog_1_method_16_code (4 : Nat) (Option.some Jvm.ClassFile.FieldType.int)) ∈ TT := tt_3 66 rfl rfl
theorem k_548 : (Jvm.Cond.classLink "SnapshotStoreLaw" (57 : Nat) "SnapshotStoreModel") ∈ TT := tt_3 68 rfl rfl
theorem k_549 : (Jvm.Cond.instantiable "SnapshotStoreModel" (26 : Nat)) ∈ TT := tt_3 69 rfl rfl
theorem k_550 : (Jvm.Cond.methodLink "SnapshotStoreLaw" (59 : Nat) ({ cls := "SnapshotStoreModel", name := "<init>", desc := "()V" } : Jvm.MethodName)) ∈ TT := tt_3 70 rfl rfl
theorem k_551 : (Jvm.Cond.instanceMethod ({ cls := "SnapshotStoreModel", name := "<init>", desc := "()V" } : Jvm.MethodName)) ∈ TT := tt_3 71 rfl rfl
theorem k_552 : (Jvm.Cond.code ({ cls := "SnapshotStoreModel", name := "<init>", desc := "()V" } : Jvm.MethodName) prog_9_method_1_code (1 : Nat) (Option.none : Option Jvm.ClassFile.FieldType)) ∈ TT := tt_3 72 rfl rfl
theorem k_553 : (Jvm.Cond.methodLink "SnapshotStoreModel" (1 : Nat) ({ cls := "java/lang/Object", name := "<init>", desc := "()V" } : Jvm.MethodName)) ∈ TT := tt_3 73 rfl rfl
theorem k_554 : (Jvm.Cond.constant "SnapshotStoreModel" (29 : Nat) (72000 : Int32)) ∈ TT := tt_3 74 rfl rfl
theorem k_555 : (Jvm.Cond.fieldLink "SnapshotStoreModel" (69 : Nat) "SnapshotStoreModel" "code" "I") ∈ TT := tt_3 75 rfl rfl
theorem k_556 : (Jvm.Cond.fieldLink "SnapshotStoreModel" (106 : Nat) "SnapshotStoreModel" "clock" "I") ∈ TT := tt_3 76 rfl rfl
theorem k_557 : (Jvm.Cond.fieldLink "SnapshotStoreModel" (145 : Nat) "SnapshotStoreModel" "safe" "I") ∈ TT := tt_3 77 rfl rfl
theorem k_558 : (Jvm.Cond.fieldLink "SnapshotStoreModel" (73 : Nat) "SnapshotStoreModel" "transactions" "I") ∈ TT := tt_3 78 rfl rfl
theorem k_559 : (Jvm.Cond.fieldLink "SnapshotStoreModel" (7 : Nat) "SnapshotStoreModel" "serial" "[Z") ∈ TT := tt_3 79 rfl rfl
theorem k_560 : (Jvm.Cond.fieldLink "SnapshotStoreModel" (13 : Nat) "SnapshotStoreModel" "starts" "[I") ∈ TT := tt_3 80 rfl rfl
theorem k_561 : (Jvm.Cond.fieldLink "SnapshotStoreModel" (17 : Nat) "SnapshotStoreModel" "stamps" "[I") ∈ TT := tt_3 81 rfl rfl
theorem k_562 : (Jvm.Cond.fieldLink "SnapshotStoreModel" (20 : Nat) "SnapshotStoreModel" "states" "[I") ∈ TT := tt_3 82 rfl rfl
theorem k_563 : (Jvm.Cond.fieldLink "SnapshotStoreModel" (23 : Nat) "SnapshotStoreModel" "hadAfter" "[Z") ∈ TT := tt_3 83 rfl rfl
theorem k_564 : (Jvm.Cond.fieldLink "SnapshotStoreModel" (26 : Nat) "SnapshotStoreModel" "writes" "[I") ∈ TT := tt_3 84 rfl rfl
theorem k_565 : (Jvm.Cond.fieldLink "SnapshotStoreModel" (30 : Nat) "SnapshotStoreModel" "writeKey" "[I") ∈ TT := tt_3 85 rfl rfl
theorem k_566 : (Jvm.Cond.fieldLink "SnapshotStoreModel" (33 : Nat) "SnapshotStoreModel" "writeValue" "[I") ∈ TT := tt_3 86 rfl rfl
theorem k_567 : (Jvm.Cond.fieldLink "SnapshotStoreModel" (36 : Nat) "SnapshotStoreModel" "writeErased" "[Z") ∈ TT := tt_3 87 rfl rfl
theorem k_568 : (Jvm.Cond.fieldLink "SnapshotStoreModel" (39 : Nat) "SnapshotStoreModel" "places" "[I") ∈ TT := tt_3 88 rfl rfl
theorem k_569 : (Jvm.Cond.fieldLink "SnapshotStoreModel" (42 : Nat) "SnapshotStoreModel" "placeAt" "[I") ∈ TT := tt_3 89 rfl rfl
theorem k_570 : (Jvm.Cond.fieldLink "SnapshotStoreModel" (45 : Nat) "SnapshotStoreModel" "reads" "[I") ∈ TT := tt_3 90 rfl rfl
theorem k_571 : (Jvm.Cond.fieldLink "SnapshotStoreModel" (48 : Nat) "SnapshotStoreModel" "readLow" "[I") ∈ TT := tt_3 91 rfl rfl
theorem k_572 : (Jvm.Cond.fieldLink "SnapshotStoreModel" (51 : Nat) "SnapshotStoreModel" "readHigh" "[I") ∈ TT := tt_3 92 rfl rfl
theorem k_573 : (Jvm.Cond.fieldLink "SnapshotStoreModel" (80 : Nat) "SnapshotStoreModel" "versions" "I") ∈ TT := tt_3 93 rfl rfl
theorem k_574 : (Jvm.Cond.fieldLink "SnapshotStoreModel" (54 : Nat) "SnapshotStoreModel" "versionKey" "[I") ∈ TT := tt_3 94 rfl rfl
theorem k_575 : (Jvm.Cond.fieldLink "SnapshotStoreModel" (57 : Nat) "SnapshotStoreModel" "versionStamp" "[I") ∈ TT := tt_3 95 rfl rfl
theorem k_576 : (Jvm.Cond.fieldLink "SnapshotStoreModel" (60 : Nat) "SnapshotStoreModel" "versionValue" "[I") ∈ TT := tt_3 96 rfl rfl
theorem k_577 : (Jvm.Cond.fieldLink "SnapshotStoreModel" (63 : Nat) "SnapshotStoreModel" "versionErased" "[Z") ∈ TT := tt_3 97 rfl rfl
theorem k_578 : (Jvm.Cond.fieldLink "SnapshotStoreModel" (66 : Nat) "SnapshotStoreModel" "goes" "[Z") ∈ TT := tt_3 98 rfl rfl
theorem k_579 : (Jvm.Cond.fieldLink "SnapshotStoreModel" (87 : Nat) "SnapshotStoreModel" "seen" "Z") ∈ TT := tt_3 99 rfl rfl
theorem k_580 : (Jvm.Cond.fieldLink "SnapshotStoreModel" (91 : Nat) "SnapshotStoreModel" "seenValue" "I") ∈ TT := tt_3 100 rfl rfl
theorem k_581 : (Jvm.Cond.lays "SnapshotStoreModel" "SnapshotStoreModel" "code" "I") ∈ TT := tt_3 101 rfl rfl
theorem k_583 : (Jvm.Cond.lays "SnapshotStoreModel" "SnapshotStoreModel" "clock" "I") ∈ TT := tt_3 103 rfl rfl
theorem k_585 : (Jvm.Cond.lays "SnapshotStoreModel" "SnapshotStoreModel" "safe" "I") ∈ TT := tt_3 105 rfl rfl
theorem k_587 : (Jvm.Cond.lays "SnapshotStoreModel" "SnapshotStoreModel" "transactions" "I") ∈ TT := tt_3 107 rfl rfl
theorem k_589 : (Jvm.Cond.laysFinal "SnapshotStoreModel" "SnapshotStoreModel" "serial" "[Z") ∈ TT := tt_3 109 rfl rfl
theorem k_591 : (Jvm.Cond.laysFinal "SnapshotStoreModel" "SnapshotStoreModel" "starts" "[I") ∈ TT := tt_3 111 rfl rfl
theorem k_593 : (Jvm.Cond.laysFinal "SnapshotStoreModel" "SnapshotStoreModel" "stamps" "[I") ∈ TT := tt_3 113 rfl rfl
theorem k_595 : (Jvm.Cond.laysFinal "SnapshotStoreModel" "SnapshotStoreModel" "states" "[I") ∈ TT := tt_3 115 rfl rfl
theorem k_597 : (Jvm.Cond.laysFinal "SnapshotStoreModel" "SnapshotStoreModel" "hadAfter" "[Z") ∈ TT := tt_3 117 rfl rfl
theorem k_599 : (Jvm.Cond.laysFinal "SnapshotStoreModel" "SnapshotStoreModel" "writes" "[I") ∈ TT := tt_3 119 rfl rfl
theorem k_601 : (Jvm.Cond.laysFinal "SnapshotStoreModel" "SnapshotStoreModel" "writeKey" "[I") ∈ TT := tt_3 121 rfl rfl
theorem k_603 : (Jvm.Cond.laysFinal "SnapshotStoreModel" "SnapshotStoreModel" "writeValue" "[I") ∈ TT := tt_3 123 rfl rfl
theorem k_605 : (Jvm.Cond.laysFinal "SnapshotStoreModel" "SnapshotStoreModel" "writeErased" "[Z") ∈ TT := tt_3 125 rfl rfl
theorem k_607 : (Jvm.Cond.laysFinal "SnapshotStoreModel" "SnapshotStoreModel" "places" "[I") ∈ TT := tt_3 127 rfl rfl
theorem k_609 : (Jvm.Cond.laysFinal "SnapshotStoreModel" "SnapshotStoreModel" "placeAt" "[I") ∈ TT := tt_3 129 rfl rfl
theorem k_611 : (Jvm.Cond.laysFinal "SnapshotStoreModel" "SnapshotStoreModel" "reads" "[I") ∈ TT := tt_3 131 rfl rfl
theorem k_613 : (Jvm.Cond.laysFinal "SnapshotStoreModel" "SnapshotStoreModel" "readLow" "[I") ∈ TT := tt_3 133 rfl rfl
theorem k_615 : (Jvm.Cond.laysFinal "SnapshotStoreModel" "SnapshotStoreModel" "readHigh" "[I") ∈ TT := tt_3 135 rfl rfl
theorem k_617 : (Jvm.Cond.lays "SnapshotStoreModel" "SnapshotStoreModel" "versions" "I") ∈ TT := tt_3 137 rfl rfl
theorem k_619 : (Jvm.Cond.laysFinal "SnapshotStoreModel" "SnapshotStoreModel" "versionKey" "[I") ∈ TT := tt_3 139 rfl rfl
theorem k_621 : (Jvm.Cond.laysFinal "SnapshotStoreModel" "SnapshotStoreModel" "versionStamp" "[I") ∈ TT := tt_3 141 rfl rfl
theorem k_623 : (Jvm.Cond.laysFinal "SnapshotStoreModel" "SnapshotStoreModel" "versionValue" "[I") ∈ TT := tt_3 143 rfl rfl
theorem k_625 : (Jvm.Cond.laysFinal "SnapshotStoreModel" "SnapshotStoreModel" "versionErased" "[Z") ∈ TT := tt_3 145 rfl rfl
theorem k_627 : (Jvm.Cond.laysFinal "SnapshotStoreModel" "SnapshotStoreModel" "goes" "[Z") ∈ TT := tt_3 147 rfl rfl
theorem k_629 : (Jvm.Cond.lays "SnapshotStoreModel" "SnapshotStoreModel" "seen" "Z") ∈ TT := tt_3 149 rfl rfl
theorem k_631 : (Jvm.Cond.lays "SnapshotStoreModel" "SnapshotStoreModel" "seenValue" "I") ∈ TT := tt_3 151 rfl rfl
theorem k_634 : (Jvm.Cond.arrayClass Jvm.ClassFile.FieldType.boolean) ∈ TT := tt_3 154 rfl rfl
theorem k_635 : (Jvm.Cond.arrayClass Jvm.ClassFile.FieldType.int) ∈ TT := tt_3 155 rfl rfl
theorem k_636 : (Jvm.Cond.methodLink "SnapshotStoreLaw" (66 : Nat) ({ cls := "SnapshotStoreModel", name := "thrown", desc := "()I" } : Jvm.MethodName)) ∈ TT := tt_3 156 rfl rfl
theorem k_637 : (Jvm.Cond.instanceMethod ({ cls := "SnapshotStoreModel", name := "thrown", desc := "()I" } : Jvm.MethodName)) ∈ TT := tt_3 157 rfl rfl
theorem k_638 : (Jvm.Cond.selects "SnapshotStoreModel" ({ cls := "SnapshotStoreModel", name := "thrown", desc := "()I" } : Jvm.MethodName) ({ cls := "SnapshotStoreModel", name := "thrown", desc := "()I" } : Jvm.MethodName)) ∈ TT := tt_3 158 rfl rfl
theorem k_639 : (Jvm.Cond.code ({ cls := "SnapshotStoreModel", name := "thrown", desc := "()I" } : Jvm.MethodName) prog_9_method_2_code (1 : Nat) (Option.some Jvm.ClassFile.FieldType.int)) ∈ TT := tt_3 159 rfl rfl
theorem k_640 : (Jvm.Cond.methodLink "SnapshotStoreLaw" (65 : Nat) ({ cls := "SnapshotStoreModel", name := "begin", desc := "(I)I" } : Jvm.MethodName)) ∈ TT := tt_3 160 rfl rfl
theorem k_641 : (Jvm.Cond.instanceMethod ({ cls := "SnapshotStoreModel", name := "begin", desc := "(I)I" } : Jvm.MethodName)) ∈ TT := tt_3 161 rfl rfl
theorem k_642 : (Jvm.Cond.selects "SnapshotStoreModel" ({ cls := "SnapshotStoreModel", name := "begin", desc := "(I)I" } : Jvm.MethodName) ({ cls := "SnapshotStoreModel", name := "begin", desc := "(I)I" } : Jvm.MethodName)) ∈ TT := tt_3 162 rfl rfl
theorem k_643 : (Jvm.Cond.code ({ cls := "SnapshotStoreModel", name := "begin", desc := "(I)I" } : Jvm.MethodName) prog_9_method_13_code (2 : Nat) (Option.some Jvm.ClassFile.FieldType.int)) ∈ TT := tt_3 163 rfl rfl
theorem k_644 : (Jvm.Cond.methodLink "SnapshotStoreLaw" (73 : Nat) ({ cls := "SnapshotStoreModel", name := "read", desc := "(II)I" } : Jvm.MethodName)) ∈ TT := tt_3 164 rfl rfl
theorem k_645 : (Jvm.Cond.instanceMethod ({ cls := "SnapshotStoreModel", name := "read", desc := "(II)I" } : Jvm.MethodName)) ∈ TT := tt_3 165 rfl rfl
theorem k_646 : (Jvm.Cond.selects "SnapshotStoreModel" ({ cls := "SnapshotStoreModel", name := "read", desc := "(II)I" } : Jvm.MethodName) ({ cls := "SnapshotStoreModel", name := "read", desc := "(II)I" } : Jvm.MethodName)) ∈ TT := tt_3 166 rfl rfl
theorem k_647 : (Jvm.Cond.code ({ cls := "SnapshotStoreModel", name := "read", desc := "(II)I" } : Jvm.MethodName) prog_9_method_14_code (3 : Nat) (Option.some Jvm.ClassFile.FieldType.int)) ∈ TT := tt_3 167 rfl rfl
theorem k_648 : (Jvm.Cond.methodLink "SnapshotStoreModel" (109 : Nat) ({ cls := "SnapshotStoreModel", name := "isOpen", desc := "(I)Z" } : Jvm.MethodName)) ∈ TT := tt_3 168 rfl rfl
theorem k_650 : (Jvm.Cond.instanceMethod ({ cls := "SnapshotStoreModel", name := "isOpen", desc := "(I)Z" } : Jvm.MethodName)) ∈ TT := tt_3 170 rfl rfl
theorem k_651 : (Jvm.Cond.code ({ cls := "SnapshotStoreModel", name := "isOpen", desc := "(I)Z" } : Jvm.MethodName) prog_9_method_4_code (2 : Nat) (Option.some Jvm.ClassFile.FieldType.boolean)) ∈ TT := tt_3 171 rfl rfl
theorem k_652 : (Jvm.Cond.methodLink "SnapshotStoreModel" (76 : Nat) ({ cls := "SnapshotStoreModel", name := "isTransaction", desc := "(I)Z" } : Jvm.MethodName)) ∈ TT := tt_3 172 rfl rfl
theorem k_654 : (Jvm.Cond.instanceMethod ({ cls := "SnapshotStoreModel", name := "isTransaction", desc := "(I)Z" } : Jvm.MethodName)) ∈ TT := tt_3 174 rfl rfl
theorem k_655 : (Jvm.Cond.code ({ cls := "SnapshotStoreModel", name := "isTransaction", desc := "(I)Z" } : Jvm.MethodName) prog_9_method_3_code (2 : Nat) (Option.some Jvm.ClassFile.FieldType.boolean)) ∈ TT := tt_3 175 rfl rfl
theorem k_656 : (Jvm.Cond.methodLink "SnapshotStoreModel" (112 : Nat) ({ cls := "SnapshotStoreModel", name := "noteRead", desc := "(III)V" } : Jvm.MethodName)) ∈ TT := tt_3 176 rfl rfl
theorem k_658 : (Jvm.Cond.instanceMethod ({ cls := "SnapshotStoreModel", name := "noteRead", desc := "(III)V" } : Jvm.MethodName)) ∈ TT := tt_3 178 rfl rfl
theorem k_659 : (Jvm.Cond.code ({ cls := "SnapshotStoreModel", name := "noteRead", desc := "(III)V" } : Jvm.MethodName) prog_9_method_10_code (4 : Nat) (Option.none : Option Jvm.ClassFile.FieldType)) ∈ TT := tt_3 179 rfl rfl
theorem k_660 : (Jvm.Cond.methodLink "SnapshotStoreModel" (103 : Nat) ({ cls := "SnapshotStoreModel", name := "look", desc := "(II)V" } : Jvm.MethodName)) ∈ TT := tt_3 180 rfl rfl
theorem k_662 : (Jvm.Cond.instanceMethod ({ cls := "SnapshotStoreModel", name := "look", desc := "(II)V" } : Jvm.MethodName)) ∈ TT := tt_3 182 rfl rfl
theorem k_663 : (Jvm.Cond.code ({ cls := "SnapshotStoreModel", name := "look", desc := "(II)V" } : Jvm.MethodName) prog_9_method_8_code (4 : Nat) (Option.none : Option Jvm.ClassFile.FieldType)) ∈ TT := tt_3 183 rfl rfl
theorem k_664 : (Jvm.Cond.methodLink "SnapshotStoreModel" (94 : Nat) ({ cls := "SnapshotStoreModel", name := "writeOf", desc := "(II)I" } : Jvm.MethodName)) ∈ TT := tt_3 184 rfl rfl
theorem k_666 : (Jvm.Cond.instanceMethod ({ cls := "SnapshotStoreModel", name := "writeOf", desc := "(II)I" } : Jvm.MethodName)) ∈ TT := tt_3 186 rfl rfl
theorem k_667 : (Jvm.Cond.code ({ cls := "SnapshotStoreModel", name := "writeOf", desc := "(II)I" } : Jvm.MethodName) prog_9_method_7_code (5 : Nat) (Option.some Jvm.ClassFile.FieldType.int)) ∈ TT := tt_3 187 rfl rfl
theorem k_668 : (Jvm.Cond.methodLink "SnapshotStoreModel" (97 : Nat) ({ cls := "SnapshotStoreModel", name := "lookAt", desc := "(II)V" } : Jvm.MethodName)) ∈ TT := tt_3 188 rfl rfl
theorem k_670 : (Jvm.Cond.instanceMethod ({ cls := "SnapshotStoreModel", name := "lookAt", desc := "(II)V" } : Jvm.MethodName)) ∈ TT := tt_3 190 rfl rfl
theorem k_671 : (Jvm.Cond.code ({ cls := "SnapshotStoreModel", name := "lookAt", desc := "(II)V" } : Jvm.MethodName) prog_9_method_6_code (4 : Nat) (Option.none : Option Jvm.ClassFile.FieldType)) ∈ TT := tt_3 191 rfl rfl
theorem k_672 : (Jvm.Cond.methodLink "SnapshotStoreModel" (83 : Nat) ({ cls := "SnapshotStoreModel", name := "versionAt", desc := "(II)I" } : Jvm.MethodName)) ∈ TT := tt_3 192 rfl rfl
theorem k_674 : (Jvm.Cond.instanceMethod ({ cls := "SnapshotStoreModel", name := "versionAt", desc := "(II)I" } : Jvm.MethodName)) ∈ TT := tt_3 194 rfl rfl
theorem k_675 : (Jvm.Cond.code ({ cls := "SnapshotStoreModel", name := "versionAt", desc := "(II)I" } : Jvm.MethodName) prog_9_method_5_code (6 : Nat) (Option.some Jvm.ClassFile.FieldType.int)) ∈ TT := tt_3 195 rfl rfl
theorem k_676 : (Jvm.Cond.methodLink "SnapshotStoreLaw" (76 : Nat) ({ cls := "SnapshotStoreModel", name := "found", desc := "(II)Z" } : Jvm.MethodName)) ∈ TT := tt_3 196 rfl rfl
theorem k_677 : (Jvm.Cond.instanceMethod ({ cls := "SnapshotStoreModel", name := "found", desc := "(II)Z" } : Jvm.MethodName)) ∈ TT := tt_3 197 rfl rfl
theorem k_678 : (Jvm.Cond.selects "SnapshotStoreModel" ({ cls := "SnapshotStoreModel", name := "found", desc := "(II)Z" } : Jvm.MethodName) ({ cls := "SnapshotStoreModel", name := "found", desc := "(II)Z" } : Jvm.MethodName)) ∈ TT := tt_3 198 rfl rfl
theorem k_679 : (Jvm.Cond.code ({ cls := "SnapshotStoreModel", name := "found", desc := "(II)Z" } : Jvm.MethodName) prog_9_method_15_code (3 : Nat) (Option.some Jvm.ClassFile.FieldType.boolean)) ∈ TT := tt_3 199 rfl rfl
theorem k_680 : (Jvm.Cond.methodLink "SnapshotStoreLaw" (80 : Nat) ({ cls := "SnapshotStoreModel", name := "write", desc := "(III)I" } : Jvm.MethodName)) ∈ TT := tt_3 200 rfl rfl
theorem k_681 : (Jvm.Cond.instanceMethod ({ cls := "SnapshotStoreModel", name := "write", desc := "(III)I" } : Jvm.MethodName)) ∈ TT := tt_3 201 rfl rfl
theorem k_682 : (Jvm.Cond.selects "SnapshotStoreModel" ({ cls := "SnapshotStoreModel", name := "write", desc := "(III)I" } : Jvm.MethodName) ({ cls := "SnapshotStoreModel", name := "write", desc := "(III)I" } : Jvm.MethodName)) ∈ TT := tt_3 202 rfl rfl
theorem k_683 : (Jvm.Cond.code ({ cls := "SnapshotStoreModel", name := "write", desc := "(III)I" } : Jvm.MethodName) prog_9_method_17_code (4 : Nat) (Option.some Jvm.ClassFile.FieldType.int)) ∈ TT := tt_3 203 rfl rfl
theorem k_684 : (Jvm.Cond.methodLink "SnapshotStoreModel" (120 : Nat) ({ cls := "SnapshotStoreModel", name := "note", desc := "(IIIZ)I" } : Jvm.MethodName)) ∈ TT := tt_3 204 rfl rfl
theorem k_686 : (Jvm.Cond.instanceMethod ({ cls := "SnapshotStoreModel", name := "note", desc := "(IIIZ)I" } : Jvm.MethodName)) ∈ TT := tt_3 206 rfl rfl
theorem k_687 : (Jvm.Cond.code ({ cls := "SnapshotStoreModel", name := "note", desc := "(IIIZ)I" } : Jvm.MethodName) prog_9_method_16_code (5 : Nat) (Option.some Jvm.ClassFile.FieldType.int)) ∈ TT := tt_3 207 rfl rfl
theorem k_688 : (Jvm.Cond.methodLink "SnapshotStoreModel" (116 : Nat) ({ cls := "SnapshotStoreModel", name := "keysOf", desc := "(I)I" } : Jvm.MethodName)) ∈ TT := tt_3 208 rfl rfl
theorem k_690 : (Jvm.Cond.instanceMethod ({ cls := "SnapshotStoreModel", name := "keysOf", desc := "(I)I" } : Jvm.MethodName)) ∈ TT := tt_3 210 rfl rfl
theorem k_691 : (Jvm.Cond.code ({ cls := "SnapshotStoreModel", name := "keysOf", desc := "(I)I" } : Jvm.MethodName) prog_9_method_12_code (4 : Nat) (Option.some Jvm.ClassFile.FieldType.int)) ∈ TT := tt_3 211 rfl rfl
theorem k_692 : (Jvm.Cond.methodLink "SnapshotStoreLaw" (83 : Nat) ({ cls := "SnapshotStoreModel", name := "erase", desc := "(II)I" } : Jvm.MethodName)) ∈ TT := tt_3 212 rfl rfl
theorem k_693 : (Jvm.Cond.instanceMethod ({ cls := "SnapshotStoreModel", name := "erase", desc := "(II)I" } : Jvm.MethodName)) ∈ TT := tt_3 213 rfl rfl
theorem k_694 : (Jvm.Cond.selects "SnapshotStoreModel" ({ cls := "SnapshotStoreModel", name := "erase", desc := "(II)I" } : Jvm.MethodName) ({ cls := "SnapshotStoreModel", name := "erase", desc := "(II)I" } : Jvm.MethodName)) ∈ TT := tt_3 214 rfl rfl
theorem k_695 : (Jvm.Cond.code ({ cls := "SnapshotStoreModel", name := "erase", desc := "(II)I" } : Jvm.MethodName) prog_9_method_18_code (3 : Nat) (Option.some Jvm.ClassFile.FieldType.int)) ∈ TT := tt_3 215 rfl rfl
theorem k_696 : (Jvm.Cond.methodLink "SnapshotStoreLaw" (86 : Nat) ({ cls := "SnapshotStoreModel", name := "sum", desc := "(III)J" } : Jvm.MethodName)) ∈ TT := tt_3 216 rfl rfl
theorem k_697 : (Jvm.Cond.instanceMethod ({ cls := "SnapshotStoreModel", name := "sum", desc := "(III)J" } : Jvm.MethodName)) ∈ TT := tt_3 217 rfl rfl
theorem k_698 : (Jvm.Cond.selects "SnapshotStoreModel" ({ cls := "SnapshotStoreModel", name := "sum", desc := "(III)J" } : Jvm.MethodName) ({ cls := "SnapshotStoreModel", name := "sum", desc := "(III)J" } : Jvm.MethodName)) ∈ TT := tt_3 218 rfl rfl
theorem k_699 : (Jvm.Cond.code ({ cls := "SnapshotStoreModel", name := "sum", desc := "(III)J" } : Jvm.MethodName) prog_9_method_19_code (8 : Nat) (Option.some Jvm.ClassFile.FieldType.long)) ∈ TT := tt_3 219 rfl rfl
theorem k_700 : (Jvm.Cond.methodLink "SnapshotStoreModel" (124 : Nat) ({ cls := "SnapshotStoreModel", name := "nextKey", desc := "(IJ)J" } : Jvm.MethodName)) ∈ TT := tt_3 220 rfl rfl
theorem k_702 : (Jvm.Cond.instanceMethod ({ cls := "SnapshotStoreModel", name := "nextKey", desc := "(IJ)J" } : Jvm.MethodName)) ∈ TT := tt_3 222 rfl rfl
theorem k_703 : (Jvm.Cond.code ({ cls := "SnapshotStoreModel", name := "nextKey", desc := "(IJ)J" } : Jvm.MethodName) prog_9_method_9_code (9 : Nat) (Option.some Jvm.ClassFile.FieldType.long)) ∈ TT := tt_3 223 rfl rfl
theorem k_704 : (Jvm.Cond.constantLong "SnapshotStoreModel" (101 : Nat) (4294967296 : Int64)) ∈ TT := tt_3 224 rfl rfl
theorem k_705 : (Jvm.Cond.methodLink "SnapshotStoreLaw" (89 : Nat) ({ cls := "SnapshotStoreModel", name := "key", desc := "(III)J" } : Jvm.MethodName)) ∈ TT := tt_3 225 rfl rfl
theorem k_706 : (Jvm.Cond.instanceMethod ({ cls := "SnapshotStoreModel", name := "key", desc := "(III)J" } : Jvm.MethodName)) ∈ TT := tt_3 226 rfl rfl
theorem k_707 : (Jvm.Cond.selects "SnapshotStoreModel" ({ cls := "SnapshotStoreModel", name := "key", desc := "(III)J" } : Jvm.MethodName) ({ cls := "SnapshotStoreModel", name := "key", desc := "(III)J" } : Jvm.MethodName)) ∈ TT := tt_3 227 rfl rfl
theorem k_708 : (Jvm.Cond.code ({ cls := "SnapshotStoreModel", name := "key", desc := "(III)J" } : Jvm.MethodName) prog_9_method_20_code (7 : Nat) (Option.some Jvm.ClassFile.FieldType.long)) ∈ TT := tt_3 228 rfl rfl
theorem k_709 : (Jvm.Cond.constant "SnapshotStoreModel" (128 : Nat) (2147483647 : Int32)) ∈ TT := tt_3 229 rfl rfl
theorem k_710 : (Jvm.Cond.methodLink "SnapshotStoreLaw" (92 : Nat) ({ cls := "SnapshotStoreModel", name := "save", desc := "(I)I" } : Jvm.MethodName)) ∈ TT := tt_3 230 rfl rfl
theorem k_711 : (Jvm.Cond.instanceMethod ({ cls := "SnapshotStoreModel", name := "save", desc := "(I)I" } : Jvm.MethodName)) ∈ TT := tt_3 231 rfl rfl
theorem k_712 : (Jvm.Cond.selects "SnapshotStoreModel" ({ cls := "SnapshotStoreModel", name := "save", desc := "(I)I" } : Jvm.MethodName) ({ cls := "SnapshotStoreModel", name := "save", desc := "(I)I" } : Jvm.MethodName)) ∈ TT := tt_3 232 rfl rfl
theorem k_713 : (Jvm.Cond.code ({ cls := "SnapshotStoreModel", name := "save", desc := "(I)I" } : Jvm.MethodName) prog_9_method_21_code (2 : Nat) (Option.some Jvm.ClassFile.FieldType.int)) ∈ TT := tt_3 233 rfl rfl
theorem k_714 : (Jvm.Cond.methodLink "SnapshotStoreLaw" (95 : Nat) ({ cls := "SnapshotStoreModel", name := "back", desc := "(II)I" } : Jvm.MethodName)) ∈ TT := tt_3 234 rfl rfl
theorem k_715 : (Jvm.Cond.instanceMethod ({ cls := "SnapshotStoreModel", name := "back", desc := "(II)I" } : Jvm.MethodName)) ∈ TT := tt_3 235 rfl rfl
theorem k_716 : (Jvm.Cond.selects "SnapshotStoreModel" ({ cls := "SnapshotStoreModel", name := "back", desc := "(II)I" } : Jvm.MethodName) ({ cls := "SnapshotStoreModel", name := "back", desc := "(II)I" } : Jvm.MethodName)) ∈ TT := tt_3 236 rfl rfl
theorem k_717 : (Jvm.Cond.code ({ cls := "SnapshotStoreModel", name := "back", desc := "(II)I" } : Jvm.MethodName) prog_9_method_22_code (3 : Nat) (Option.some Jvm.ClassFile.FieldType.int)) ∈ TT := tt_3 237 rfl rfl
theorem k_718 : (Jvm.Cond.methodLink "SnapshotStoreLaw" (98 : Nat) ({ cls := "SnapshotStoreModel", name := "commit", desc := "(I)I" } : Jvm.MethodName)) ∈ TT := tt_3 238 rfl rfl
theorem k_719 : (Jvm.Cond.instanceMethod ({ cls := "SnapshotStoreModel", name := "commit", desc := "(I)I" } : Jvm.MethodName)) ∈ TT := tt_3 239 rfl rfl
theorem k_720 : (Jvm.Cond.selects "SnapshotStoreModel" ({ cls := "SnapshotStoreModel", name := "commit", desc := "(I)I" } : Jvm.MethodName) ({ cls := "SnapshotStoreModel", name := "commit", desc := "(I)I" } : Jvm.MethodName)) ∈ TT := tt_4 0 rfl rfl
theorem k_721 : (Jvm.Cond.code ({ cls := "SnapshotStoreModel", name := "commit", desc := "(I)I" } : Jvm.MethodName) prog_9_method_27_code (4 : Nat) (Option.some Jvm.ClassFile.FieldType.int)) ∈ TT := tt_4 1 rfl rfl
theorem k_722 : (Jvm.Cond.methodLink "SnapshotStoreModel" (136 : Nat) ({ cls := "SnapshotStoreModel", name := "conflicts", desc := "(I)Z" } : Jvm.MethodName)) ∈ TT := tt_4 2 rfl rfl
theorem k_724 : (Jvm.Cond.instanceMethod ({ cls := "SnapshotStoreModel", name := "conflicts", desc := "(I)Z" } : Jvm.MethodName)) ∈ TT := tt_4 4 rfl rfl
theorem k_725 : (Jvm.Cond.code ({ cls := "SnapshotStoreModel", name := "conflicts", desc := "(I)Z" } : Jvm.MethodName) prog_9_method_24_code (5 : Nat) (Option.some Jvm.ClassFile.FieldType.boolean)) ∈ TT := tt_4 5 rfl rfl
theorem k_726 : (Jvm.Cond.methodLink "SnapshotStoreModel" (139 : Nat) ({ cls := "SnapshotStoreModel", name := "isUnsafe", desc := "(I)Z" } : Jvm.MethodName)) ∈ TT := tt_4 6 rfl rfl
theorem k_728 : (Jvm.Cond.instanceMethod ({ cls := "SnapshotStoreModel", name := "isUnsafe", desc := "(I)Z" } : Jvm.MethodName)) ∈ TT := tt_4 8 rfl rfl
theorem k_729 : (Jvm.Cond.code ({ cls := "SnapshotStoreModel", name := "isUnsafe", desc := "(I)Z" } : Jvm.MethodName) prog_9_method_25_code (7 : Nat) (Option.some Jvm.ClassFile.FieldType.boolean)) ∈ TT := tt_4 9 rfl rfl
theorem k_730 : (Jvm.Cond.methodLink "SnapshotStoreModel" (129 : Nat) ({ cls := "SnapshotStoreModel", name := "isLater", desc := "(II)Z" } : Jvm.MethodName)) ∈ TT := tt_4 10 rfl rfl
theorem k_732 : (Jvm.Cond.instanceMethod ({ cls := "SnapshotStoreModel", name := "isLater", desc := "(II)Z" } : Jvm.MethodName)) ∈ TT := tt_4 12 rfl rfl
theorem k_733 : (Jvm.Cond.code ({ cls := "SnapshotStoreModel", name := "isLater", desc := "(II)Z" } : Jvm.MethodName) prog_9_method_23_code (3 : Nat) (Option.some Jvm.ClassFile.FieldType.boolean)) ∈ TT := tt_4 13 rfl rfl
theorem k_734 : (Jvm.Cond.methodLink "SnapshotStoreModel" (133 : Nat) ({ cls := "SnapshotStoreModel", name := "hasRead", desc := "(II)Z" } : Jvm.MethodName)) ∈ TT := tt_4 14 rfl rfl
theorem k_736 : (Jvm.Cond.instanceMethod ({ cls := "SnapshotStoreModel", name := "hasRead", desc := "(II)Z" } : Jvm.MethodName)) ∈ TT := tt_4 16 rfl rfl
theorem k_737 : (Jvm.Cond.code ({ cls := "SnapshotStoreModel", name := "hasRead", desc := "(II)Z" } : Jvm.MethodName) prog_9_method_11_code (6 : Nat) (Option.some Jvm.ClassFile.FieldType.boolean)) ∈ TT := tt_4 17 rfl rfl
theorem k_738 : (Jvm.Cond.methodLink "SnapshotStoreModel" (142 : Nat) ({ cls := "SnapshotStoreModel", name := "end", desc := "(II)I" } : Jvm.MethodName)) ∈ TT := tt_4 18 rfl rfl
theorem k_740 : (Jvm.Cond.instanceMethod ({ cls := "SnapshotStoreModel", name := "end", desc := "(II)I" } : Jvm.MethodName)) ∈ TT := tt_4 20 rfl rfl
theorem k_741 : (Jvm.Cond.code ({ cls := "SnapshotStoreModel", name := "end", desc := "(II)I" } : Jvm.MethodName) prog_9_method_26_code (3 : Nat) (Option.some Jvm.ClassFile.FieldType.int)) ∈ TT := tt_4 21 rfl rfl
theorem k_742 : (Jvm.Cond.methodLink "SnapshotStoreLaw" (101 : Nat) ({ cls := "SnapshotStoreModel", name := "abort", desc := "(I)I" } : Jvm.MethodName)) ∈ TT := tt_4 22 rfl rfl
theorem k_743 : (Jvm.Cond.instanceMethod ({ cls := "SnapshotStoreModel", name := "abort", desc := "(I)I" } : Jvm.MethodName)) ∈ TT := tt_4 23 rfl rfl
theorem k_744 : (Jvm.Cond.selects "SnapshotStoreModel" ({ cls := "SnapshotStoreModel", name := "abort", desc := "(I)I" } : Jvm.MethodName) ({ cls := "SnapshotStoreModel", name := "abort", desc := "(I)I" } : Jvm.MethodName)) ∈ TT := tt_4 24 rfl rfl
theorem k_745 : (Jvm.Cond.code ({ cls := "SnapshotStoreModel", name := "abort", desc := "(I)I" } : Jvm.MethodName) prog_9_method_28_code (2 : Nat) (Option.some Jvm.ClassFile.FieldType.int)) ∈ TT := tt_4 25 rfl rfl
theorem k_746 : (Jvm.Cond.methodLink "SnapshotStoreLaw" (105 : Nat) ({ cls := "SnapshotStoreModel", name := "vacuum", desc := "()I" } : Jvm.MethodName)) ∈ TT := tt_4 26 rfl rfl
theorem k_747 : (Jvm.Cond.instanceMethod ({ cls := "SnapshotStoreModel", name := "vacuum", desc := "()I" } : Jvm.MethodName)) ∈ TT := tt_4 27 rfl rfl
theorem k_748 : (Jvm.Cond.selects "SnapshotStoreModel" ({ cls := "SnapshotStoreModel", name := "vacuum", desc := "()I" } : Jvm.MethodName) ({ cls := "SnapshotStoreModel", name := "vacuum", desc := "()I" } : Jvm.MethodName)) ∈ TT := tt_4 28 rfl rfl
theorem k_749 : (Jvm.Cond.code ({ cls := "SnapshotStoreModel", name := "vacuum", desc := "()I" } : Jvm.MethodName) prog_9_method_32_code (5 : Nat) (Option.some Jvm.ClassFile.FieldType.int)) ∈ TT := tt_4 29 rfl rfl
theorem k_750 : (Jvm.Cond.methodLink "SnapshotStoreModel" (148 : Nat) ({ cls := "SnapshotStoreModel", name := "isHad", desc := "(I)Z" } : Jvm.MethodName)) ∈ TT := tt_4 30 rfl rfl
theorem k_752 : (Jvm.Cond.instanceMethod ({ cls := "SnapshotStoreModel", name := "isHad", desc := "(I)Z" } : Jvm.MethodName)) ∈ TT := tt_4 32 rfl rfl
theorem k_753 : (Jvm.Cond.code ({ cls := "SnapshotStoreModel", name := "isHad", desc := "(I)Z" } : Jvm.MethodName) prog_9_method_30_code (4 : Nat) (Option.some Jvm.ClassFile.FieldType.boolean)) ∈ TT := tt_4 33 rfl rfl
theorem k_754 : (Jvm.Cond.methodLink "SnapshotStoreModel" (151 : Nat) ({ cls := "SnapshotStoreModel", name := "close", desc := "()I" } : Jvm.MethodName)) ∈ TT := tt_4 34 rfl rfl
theorem k_756 : (Jvm.Cond.instanceMethod ({ cls := "SnapshotStoreModel", name := "close", desc := "()I" } : Jvm.MethodName)) ∈ TT := tt_4 36 rfl rfl
theorem k_757 : (Jvm.Cond.code ({ cls := "SnapshotStoreModel", name := "close", desc := "()I" } : Jvm.MethodName) prog_9_method_29_code (3 : Nat) (Option.some Jvm.ClassFile.FieldType.int)) ∈ TT := tt_4 37 rfl rfl
theorem k_758 : (Jvm.Cond.methodLink "SnapshotStoreModel" (155 : Nat) ({ cls := "SnapshotStoreModel", name := "leastStamp", desc := "()I" } : Jvm.MethodName)) ∈ TT := tt_4 38 rfl rfl
theorem k_760 : (Jvm.Cond.instanceMethod ({ cls := "SnapshotStoreModel", name := "leastStamp", desc := "()I" } : Jvm.MethodName)) ∈ TT := tt_4 40 rfl rfl
theorem k_761 : (Jvm.Cond.code ({ cls := "SnapshotStoreModel", name := "leastStamp", desc := "()I" } : Jvm.MethodName) prog_9_method_31_code (3 : Nat) (Option.some Jvm.ClassFile.FieldType.int)) ∈ TT := tt_4 41 rfl rfl
theorem k_762 : (Jvm.Cond.methodLink "SnapshotStoreLaw" (109 : Nat) ({ cls := "SnapshotStoreModel", name := "flush", desc := "()I" } : Jvm.MethodName)) ∈ TT := tt_4 42 rfl rfl
theorem k_763 : (Jvm.Cond.instanceMethod ({ cls := "SnapshotStoreModel", name := "flush", desc := "()I" } : Jvm.MethodName)) ∈ TT := tt_4 43 rfl rfl
theorem k_764 : (Jvm.Cond.selects "SnapshotStoreModel" ({ cls := "SnapshotStoreModel", name := "flush", desc := "()I" } : Jvm.MethodName) ({ cls := "SnapshotStoreModel", name := "flush", desc := "()I" } : Jvm.MethodName)) ∈ TT := tt_4 44 rfl rfl
theorem k_765 : (Jvm.Cond.code ({ cls := "SnapshotStoreModel", name := "flush", desc := "()I" } : Jvm.MethodName) prog_9_method_33_code (2 : Nat) (Option.some Jvm.ClassFile.FieldType.int)) ∈ TT := tt_4 45 rfl rfl
theorem k_766 : (Jvm.Cond.methodLink "SnapshotStoreLaw" (113 : Nat) ({ cls := "SnapshotStoreModel", name := "crash", desc := "()I" } : Jvm.MethodName)) ∈ TT := tt_4 46 rfl rfl
theorem k_767 : (Jvm.Cond.instanceMethod ({ cls := "SnapshotStoreModel", name := "crash", desc := "()I" } : Jvm.MethodName)) ∈ TT := tt_4 47 rfl rfl
theorem k_768 : (Jvm.Cond.selects "SnapshotStoreModel" ({ cls := "SnapshotStoreModel", name := "crash", desc := "()I" } : Jvm.MethodName) ({ cls := "SnapshotStoreModel", name := "crash", desc := "()I" } : Jvm.MethodName)) ∈ TT := tt_4 48 rfl rfl
theorem k_769 : (Jvm.Cond.code ({ cls := "SnapshotStoreModel", name := "crash", desc := "()I" } : Jvm.MethodName) prog_9_method_34_code (4 : Nat) (Option.some Jvm.ClassFile.FieldType.int)) ∈ TT := tt_4 49 rfl rfl
theorem k_770 : (Jvm.Cond.methodLink "SnapshotStoreLaw" (116 : Nat) ({ cls := "SnapshotStoreModel", name := "told", desc := "(II)I" } : Jvm.MethodName)) ∈ TT := tt_4 50 rfl rfl
theorem k_771 : (Jvm.Cond.instanceMethod ({ cls := "SnapshotStoreModel", name := "told", desc := "(II)I" } : Jvm.MethodName)) ∈ TT := tt_4 51 rfl rfl
theorem k_772 : (Jvm.Cond.selects "SnapshotStoreModel" ({ cls := "SnapshotStoreModel", name := "told", desc := "(II)I" } : Jvm.MethodName) ({ cls := "SnapshotStoreModel", name := "told", desc := "(II)I" } : Jvm.MethodName)) ∈ TT := tt_4 52 rfl rfl
theorem k_773 : (Jvm.Cond.code ({ cls := "SnapshotStoreModel", name := "told", desc := "(II)I" } : Jvm.MethodName) prog_9_method_35_code (3 : Nat) (Option.some Jvm.ClassFile.FieldType.int)) ∈ TT := tt_4 53 rfl rfl
theorem k_774 : (Jvm.Cond.methodLink "SnapshotStoreLaw" (121 : Nat) ({ cls := "SnapshotStoreModel", name := "at", desc := "(IZ)I" } : Jvm.MethodName)) ∈ TT := tt_4 54 rfl rfl
theorem k_775 : (Jvm.Cond.instanceMethod ({ cls := "SnapshotStoreModel", name := "at", desc := "(IZ)I" } : Jvm.MethodName)) ∈ TT := tt_4 55 rfl rfl
theorem k_776 : (Jvm.Cond.selects "SnapshotStoreModel" ({ cls := "SnapshotStoreModel", name := "at", desc := "(IZ)I" } : Jvm.MethodName) ({ cls := "SnapshotStoreModel", name := "at", desc := "(IZ)I" } : Jvm.MethodName)) ∈ TT := tt_4 56 rfl rfl
theorem k_777 : (Jvm.Cond.code ({ cls := "SnapshotStoreModel", name := "at", desc := "(IZ)I" } : Jvm.MethodName) prog_9_method_36_code (3 : Nat) (Option.some Jvm.ClassFile.FieldType.int)) ∈ TT := tt_4 57 rfl rfl
theorem k_778 : (Jvm.Cond.methodLink "SnapshotStoreLaw" (125 : Nat) ({ cls := "SnapshotStoreModel", name := "versions", desc := "(I)I" } : Jvm.MethodName)) ∈ TT := tt_4 58 rfl rfl
theorem k_779 : (Jvm.Cond.instanceMethod ({ cls := "SnapshotStoreModel", name := "versions", desc := "(I)I" } : Jvm.MethodName)) ∈ TT := tt_4 59 rfl rfl
theorem k_780 : (Jvm.Cond.selects "SnapshotStoreModel" ({ cls := "SnapshotStoreModel", name := "versions", desc := "(I)I" } : Jvm.MethodName) ({ cls := "SnapshotStoreModel", name := "versions", desc := "(I)I" } : Jvm.MethodName)) ∈ TT := tt_4 60 rfl rfl
theorem k_781 : (Jvm.Cond.code ({ cls := "SnapshotStoreModel", name := "versions", desc := "(I)I" } : Jvm.MethodName) prog_9_method_37_code (4 : Nat) (Option.some Jvm.ClassFile.FieldType.int)) ∈ TT := tt_4 61 rfl rfl
theorem k_782 : (Jvm.Cond.methodLink "SnapshotStoreLaw" (129 : Nat) ({ cls := "SnapshotStoreModel", name := "count", desc := "(I)I" } : Jvm.MethodName)) ∈ TT := tt_4 62 rfl rfl
theorem k_783 : (Jvm.Cond.instanceMethod ({ cls := "SnapshotStoreModel", name := "count", desc := "(I)I" } : Jvm.MethodName)) ∈ TT := tt_4 63 rfl rfl
theorem k_784 : (Jvm.Cond.selects "SnapshotStoreModel" ({ cls := "SnapshotStoreModel", name := "count", desc := "(I)I" } : Jvm.MethodName) ({ cls := "SnapshotStoreModel", name := "count", desc := "(I)I" } : Jvm.MethodName)) ∈ TT := tt_4 64 rfl rfl
theorem k_785 : (Jvm.Cond.code ({ cls := "SnapshotStoreModel", name := "count", desc := "(I)I" } : Jvm.MethodName) prog_9_method_38_code (6 : Nat) (Option.some Jvm.ClassFile.FieldType.int)) ∈ TT := tt_4 65 rfl rfl
theorem k_786 : (Jvm.Cond.methodLink "SnapshotStoreLaw" (133 : Nat) ({ cls := "SnapshotStoreModel", name := "astray", desc := "()I" } : Jvm.MethodName)) ∈ TT := tt_4 66 rfl rfl
theorem k_787 : (Jvm.Cond.instanceMethod ({ cls := "SnapshotStoreModel", name := "astray", desc := "()I" } : Jvm.MethodName)) ∈ TT := tt_4 67 rfl rfl
theorem k_788 : (Jvm.Cond.selects "SnapshotStoreModel" ({ cls := "SnapshotStoreModel", name := "astray", desc := "()I" } : Jvm.MethodName) ({ cls := "SnapshotStoreModel", name := "astray", desc := "()I" } : Jvm.MethodName)) ∈ TT := tt_4 68 rfl rfl
theorem k_789 : (Jvm.Cond.code ({ cls := "SnapshotStoreModel", name := "astray", desc := "()I" } : Jvm.MethodName) prog_9_method_39_code (1 : Nat) (Option.some Jvm.ClassFile.FieldType.int)) ∈ TT := tt_4 69 rfl rfl
theorem k_790 : (Jvm.Cond.arrayClass Jvm.ClassFile.FieldType.long) ∈ TT := tt_4 70 rfl rfl
theorem ks_0 : Cond.selects "SnapshotStore" ⟨"SnapshotStore", "dropUnseen", "(LSnapshotStore$Key;)I"⟩ ⟨"SnapshotStore", "dropUnseen", "(LSnapshotStore$Key;)I"⟩ ∈ TT := tt_p 0 rfl rfl
theorem ks_1 : Cond.selects "SnapshotStore" ⟨"SnapshotStore", "isLookedAt", "(II)Z"⟩ ⟨"SnapshotStore", "isLookedAt", "(II)Z"⟩ ∈ TT := tt_p 1 rfl rfl
theorem ks_2 : Cond.selects "SnapshotStore" ⟨"SnapshotStore", "dropOldestErased", "(LSnapshotStore$Key;)I"⟩ ⟨"SnapshotStore", "dropOldestErased", "(LSnapshotStore$Key;)I"⟩ ∈ TT := tt_p 2 rfl rfl
theorem ks_3 : Cond.selects "SnapshotStore" ⟨"SnapshotStore", "keyNamed", "(I)LSnapshotStore$Key;"⟩ ⟨"SnapshotStore", "keyNamed", "(I)LSnapshotStore$Key;"⟩ ∈ TT := tt_p 3 rfl rfl
theorem ks_4 : Cond.selects "SnapshotStore" ⟨"SnapshotStore", "lastUpTo", "(I)LSnapshotStore$Key;"⟩ ⟨"SnapshotStore", "lastUpTo", "(I)LSnapshotStore$Key;"⟩ ∈ TT := tt_p 4 rfl rfl
theorem ks_5 : Cond.selects "SnapshotStore" ⟨"SnapshotStore", "allVersions", "()I"⟩ ⟨"SnapshotStore", "allVersions", "()I"⟩ ∈ TT := tt_p 5 rfl rfl
theorem ks_6 : Cond.selects "SnapshotStore" ⟨"SnapshotStore", "keysWithVersions", "()I"⟩ ⟨"SnapshotStore", "keysWithVersions", "()I"⟩ ∈ TT := tt_p 6 rfl rfl
theorem ks_7 : Cond.selects "SnapshotStore" ⟨"SnapshotStore", "keysWithValue", "()I"⟩ ⟨"SnapshotStore", "keysWithValue", "()I"⟩ ∈ TT := tt_p 7 rfl rfl
theorem ks_8 : Cond.selects "SnapshotStore" ⟨"SnapshotStore", "openOnes", "()I"⟩ ⟨"SnapshotStore", "openOnes", "()I"⟩ ∈ TT := tt_p 8 rfl rfl
theorem ks_9 : Cond.selects "java/lang/Throwable" ⟨"java/lang/Throwable", "fillInStackTrace", "(I)Ljava/lang/Throwable;"⟩ ⟨"java/lang/Throwable", "fillInStackTrace", "(I)Ljava/lang/Throwable;"⟩ ∈ TT := tt_p 9 rfl rfl
theorem ks_10 : Cond.selects "SnapshotStore" ⟨"SnapshotStore", "openOne", "(I)LSnapshotStore$Transaction;"⟩ ⟨"SnapshotStore", "openOne", "(I)LSnapshotStore$Transaction;"⟩ ∈ TT := tt_p 10 rfl rfl
theorem ks_11 : Cond.selects "SnapshotStore" ⟨"SnapshotStore", "anyOne", "(I)LSnapshotStore$Transaction;"⟩ ⟨"SnapshotStore", "anyOne", "(I)LSnapshotStore$Transaction;"⟩ ∈ TT := tt_p 11 rfl rfl
theorem ks_12 : Cond.selects "SnapshotStore" ⟨"SnapshotStore", "noteRange", "(LSnapshotStore$Transaction;II)V"⟩ ⟨"SnapshotStore", "noteRange", "(LSnapshotStore$Transaction;II)V"⟩ ∈ TT := tt_p 12 rfl rfl
theorem ks_13 : Cond.selects "SnapshotStore" ⟨"SnapshotStore", "countNote", "()V"⟩ ⟨"SnapshotStore", "countNote", "()V"⟩ ∈ TT := tt_p 13 rfl rfl
theorem ks_14 : Cond.selects "SnapshotStore" ⟨"SnapshotStore", "put", "(LSnapshotStore$Transaction;IJ)I"⟩ ⟨"SnapshotStore", "put", "(LSnapshotStore$Transaction;IJ)I"⟩ ∈ TT := tt_p 14 rfl rfl
theorem ks_15 : Cond.selects "SnapshotStore" ⟨"SnapshotStore", "placeKey", "(I)V"⟩ ⟨"SnapshotStore", "placeKey", "(I)V"⟩ ∈ TT := tt_p 15 rfl rfl
theorem ks_16 : Cond.selects "SnapshotStore" ⟨"SnapshotStore", "seenKey", "(LSnapshotStore$Transaction;II)LSnapshotStore$Key;"⟩ ⟨"SnapshotStore", "seenKey", "(LSnapshotStore$Transaction;II)LSnapshotStore$Key;"⟩ ∈ TT := tt_p 16 rfl rfl
theorem ks_17 : Cond.selects "SnapshotStore" ⟨"SnapshotStore", "hasConflict", "(LSnapshotStore$Transaction;)Z"⟩ ⟨"SnapshotStore", "hasConflict", "(LSnapshotStore$Transaction;)Z"⟩ ∈ TT := tt_p 17 rfl rfl
theorem ks_18 : Cond.selects "SnapshotStore" ⟨"SnapshotStore", "hasAfter", "(LSnapshotStore$Transaction;Z)Z"⟩ ⟨"SnapshotStore", "hasAfter", "(LSnapshotStore$Transaction;Z)Z"⟩ ∈ TT := tt_p 18 rfl rfl
theorem ks_19 : Cond.selects "SnapshotStore" ⟨"SnapshotStore", "hasBefore", "(LSnapshotStore$Transaction;)Z"⟩ ⟨"SnapshotStore", "hasBefore", "(LSnapshotStore$Transaction;)Z"⟩ ∈ TT := tt_p 19 rfl rfl
theorem ks_20 : Cond.selects "SnapshotStore" ⟨"SnapshotStore", "addVersions", "(LSnapshotStore$Transaction;)V"⟩ ⟨"SnapshotStore", "addVersions", "(LSnapshotStore$Transaction;)V"⟩ ∈ TT := tt_p 20 rfl rfl
theorem ks_21 : Cond.selects "SnapshotStoreModel" ⟨"SnapshotStoreModel", "isOpen", "(I)Z"⟩ ⟨"SnapshotStoreModel", "isOpen", "(I)Z"⟩ ∈ TT := tt_p 21 rfl rfl
theorem ks_22 : Cond.selects "SnapshotStoreModel" ⟨"SnapshotStoreModel", "isTransaction", "(I)Z"⟩ ⟨"SnapshotStoreModel", "isTransaction", "(I)Z"⟩ ∈ TT := tt_p 22 rfl rfl
theorem ks_23 : Cond.selects "SnapshotStoreModel" ⟨"SnapshotStoreModel", "noteRead", "(III)V"⟩ ⟨"SnapshotStoreModel", "noteRead", "(III)V"⟩ ∈ TT := tt_p 23 rfl rfl
theorem ks_24 : Cond.selects "SnapshotStoreModel" ⟨"SnapshotStoreModel", "look", "(II)V"⟩ ⟨"SnapshotStoreModel", "look", "(II)V"⟩ ∈ TT := tt_p 24 rfl rfl
theorem ks_25 : Cond.selects "SnapshotStoreModel" ⟨"SnapshotStoreModel", "writeOf", "(II)I"⟩ ⟨"SnapshotStoreModel", "writeOf", "(II)I"⟩ ∈ TT := tt_p 25 rfl rfl
theorem ks_26 : Cond.selects "SnapshotStoreModel" ⟨"SnapshotStoreModel", "lookAt", "(II)V"⟩ ⟨"SnapshotStoreModel", "lookAt", "(II)V"⟩ ∈ TT := tt_p 26 rfl rfl
theorem ks_27 : Cond.selects "SnapshotStoreModel" ⟨"SnapshotStoreModel", "versionAt", "(II)I"⟩ ⟨"SnapshotStoreModel", "versionAt", "(II)I"⟩ ∈ TT := tt_p 27 rfl rfl
theorem ks_28 : Cond.selects "SnapshotStoreModel" ⟨"SnapshotStoreModel", "note", "(IIIZ)I"⟩ ⟨"SnapshotStoreModel", "note", "(IIIZ)I"⟩ ∈ TT := tt_p 28 rfl rfl
theorem ks_29 : Cond.selects "SnapshotStoreModel" ⟨"SnapshotStoreModel", "keysOf", "(I)I"⟩ ⟨"SnapshotStoreModel", "keysOf", "(I)I"⟩ ∈ TT := tt_p 29 rfl rfl
theorem ks_30 : Cond.selects "SnapshotStoreModel" ⟨"SnapshotStoreModel", "nextKey", "(IJ)J"⟩ ⟨"SnapshotStoreModel", "nextKey", "(IJ)J"⟩ ∈ TT := tt_p 30 rfl rfl
theorem ks_31 : Cond.selects "SnapshotStoreModel" ⟨"SnapshotStoreModel", "conflicts", "(I)Z"⟩ ⟨"SnapshotStoreModel", "conflicts", "(I)Z"⟩ ∈ TT := tt_p 31 rfl rfl
theorem ks_32 : Cond.selects "SnapshotStoreModel" ⟨"SnapshotStoreModel", "isUnsafe", "(I)Z"⟩ ⟨"SnapshotStoreModel", "isUnsafe", "(I)Z"⟩ ∈ TT := tt_p 32 rfl rfl
theorem ks_33 : Cond.selects "SnapshotStoreModel" ⟨"SnapshotStoreModel", "isLater", "(II)Z"⟩ ⟨"SnapshotStoreModel", "isLater", "(II)Z"⟩ ∈ TT := tt_p 33 rfl rfl
theorem ks_34 : Cond.selects "SnapshotStoreModel" ⟨"SnapshotStoreModel", "hasRead", "(II)Z"⟩ ⟨"SnapshotStoreModel", "hasRead", "(II)Z"⟩ ∈ TT := tt_p 34 rfl rfl
theorem ks_35 : Cond.selects "SnapshotStoreModel" ⟨"SnapshotStoreModel", "end", "(II)I"⟩ ⟨"SnapshotStoreModel", "end", "(II)I"⟩ ∈ TT := tt_p 35 rfl rfl
theorem ks_36 : Cond.selects "SnapshotStoreModel" ⟨"SnapshotStoreModel", "isHad", "(I)Z"⟩ ⟨"SnapshotStoreModel", "isHad", "(I)Z"⟩ ∈ TT := tt_p 36 rfl rfl
theorem ks_37 : Cond.selects "SnapshotStoreModel" ⟨"SnapshotStoreModel", "close", "()I"⟩ ⟨"SnapshotStoreModel", "close", "()I"⟩ ∈ TT := tt_p 37 rfl rfl
theorem ks_38 : Cond.selects "SnapshotStoreModel" ⟨"SnapshotStoreModel", "leastStamp", "()I"⟩ ⟨"SnapshotStoreModel", "leastStamp", "()I"⟩ ∈ TT := tt_p 38 rfl rfl
theorem i_Key : ∀ w ∈ u_ws R_Key F_Key 3, w ∈ TT := (tt_c k_371 (tt_c k_373 (tt_c k_375 tt_n)))
theorem i_Place : ∀ w ∈ u_ws R_Place F_Place 3, w ∈ TT := (tt_c k_457 (tt_c k_459 (tt_c k_461 tt_n)))
theorem i_Range : ∀ w ∈ u_ws R_Range F_Range 3, w ∈ TT := (tt_c k_323 (tt_c k_325 (tt_c k_327 tt_n)))
theorem i_Tx : ∀ w ∈ u_ws R_Tx F_Tx 8, w ∈ TT := (tt_c k_252 (tt_c k_254 (tt_c k_256 (tt_c k_258 (tt_c k_260 (tt_c k_262 (tt_c k_264 (tt_c k_266 tt_n))))))))
theorem i_Ver : ∀ w ∈ u_ws R_Ver F_Ver 3, w ∈ TT := (tt_c k_526 (tt_c k_528 (tt_c k_530 tt_n)))
theorem i_Wr : ∀ w ∈ u_ws R_Wr F_Wr 4, w ∈ TT := (tt_c k_398 (tt_c k_400 (tt_c k_402 (tt_c k_404 tt_n))))
theorem i_S : ∀ w ∈ u_ws R_S F_S 6, w ∈ TT := (tt_c k_31 (tt_c k_33 (tt_c k_35 (tt_c k_37 (tt_c k_39 (tt_c k_41 tt_n))))))
theorem i_M : ∀ w ∈ u_ws R_M F_M 26, w ∈ TT := (tt_c k_581 (tt_c k_583 (tt_c k_585 (tt_c k_587 (tt_c k_589 (tt_c k_591 (tt_c k_593 (tt_c k_595 (tt_c k_597 (tt_c k_599 (tt_c k_601 (tt_c k_603 (tt_c k_605 (tt_c k_607 (tt_c k_609 (tt_c k_611 (tt_c k_613 (tt_c k_615 (tt_c k_617 (tt_c k_619 (tt_c k_621 (tt_c k_623 (tt_c k_625 (tt_c k_627 (tt_c k_629 (tt_c k_631 tt_n))))))))))))))))))))))))))
abbrev b_S_init : ByteArray := prog_1_method_1_code
def y_S_init : MethodName := ⟨"SnapshotStore", "<init>", "()V"⟩
abbrev b_S_vacuum : ByteArray := prog_1_method_13_code
def y_S_vacuum : MethodName := ⟨"SnapshotStore", "vacuum", "()I"⟩
abbrev b_S_dropUnseen : ByteArray := prog_1_method_36_code
def y_S_dropUnseen : MethodName := ⟨"SnapshotStore", "dropUnseen", "(LSnapshotStore$Key;)I"⟩
abbrev b_S_isLookedAt : ByteArray := prog_1_method_38_code
def y_S_isLookedAt : MethodName := ⟨"SnapshotStore", "isLookedAt", "(II)Z"⟩
abbrev b_Key_unlink : ByteArray := prog_2_method_6_code
def y_Key_unlink : MethodName := ⟨"SnapshotStore$Key", "unlink", "(LSnapshotStore$Version;LSnapshotStore$Version;)V"⟩
abbrev b_S_dropOldestErased : ByteArray := prog_1_method_37_code
def y_S_dropOldestErased : MethodName := ⟨"SnapshotStore", "dropOldestErased", "(LSnapshotStore$Key;)I"⟩
abbrev b_S_flush : ByteArray := prog_1_method_14_code
def y_S_flush : MethodName := ⟨"SnapshotStore", "flush", "()I"⟩
abbrev b_S_crash : ByteArray := prog_1_method_15_code
def y_S_crash : MethodName := ⟨"SnapshotStore", "crash", "()I"⟩
abbrev b_Key_versionAt : ByteArray := prog_2_method_2_code
def y_Key_versionAt : MethodName := ⟨"SnapshotStore$Key", "versionAt", "(I)LSnapshotStore$Version;"⟩
abbrev b_Tx_end : ByteArray := prog_5_method_2_code
def y_Tx_end : MethodName := ⟨"SnapshotStore$Transaction", "end", "(I)V"⟩
abbrev b_S_at : ByteArray := prog_1_method_17_code
def y_S_at : MethodName := ⟨"SnapshotStore", "at", "(IZ)I"⟩
abbrev b_S_keyNamed : ByteArray := prog_1_method_26_code
def y_S_keyNamed : MethodName := ⟨"SnapshotStore", "keyNamed", "(I)LSnapshotStore$Key;"⟩
abbrev b_S_lastUpTo : ByteArray := prog_1_method_28_code
def y_S_lastUpTo : MethodName := ⟨"SnapshotStore", "lastUpTo", "(I)LSnapshotStore$Key;"⟩
abbrev b_Key_contentAt : ByteArray := prog_2_method_3_code
def y_Key_contentAt : MethodName := ⟨"SnapshotStore$Key", "contentAt", "(I)J"⟩
abbrev b_S_valueOrZero : ByteArray := prog_1_method_30_code
def y_S_valueOrZero : MethodName := ⟨"SnapshotStore", "valueOrZero", "(J)I"⟩
abbrev b_S_versions : ByteArray := prog_1_method_18_code
def y_S_versions : MethodName := ⟨"SnapshotStore", "versions", "(I)I"⟩
abbrev b_Key_versionCount : ByteArray := prog_2_method_4_code
def y_Key_versionCount : MethodName := ⟨"SnapshotStore$Key", "versionCount", "()I"⟩
abbrev b_S_count : ByteArray := prog_1_method_19_code
def y_S_count : MethodName := ⟨"SnapshotStore", "count", "(I)I"⟩
abbrev b_S_allVersions : ByteArray := prog_1_method_39_code
def y_S_allVersions : MethodName := ⟨"SnapshotStore", "allVersions", "()I"⟩
abbrev b_S_keysWithVersions : ByteArray := prog_1_method_40_code
def y_S_keysWithVersions : MethodName := ⟨"SnapshotStore", "keysWithVersions", "()I"⟩
abbrev b_S_keysWithValue : ByteArray := prog_1_method_41_code
def y_S_keysWithValue : MethodName := ⟨"SnapshotStore", "keysWithValue", "()I"⟩
abbrev b_S_openOnes : ByteArray := prog_1_method_42_code
def y_S_openOnes : MethodName := ⟨"SnapshotStore", "openOnes", "()I"⟩
abbrev b_S_astray : ByteArray := prog_1_method_20_code
def y_S_astray : MethodName := ⟨"SnapshotStore", "astray", "()I"⟩
abbrev b_Key_isInOrder : ByteArray := prog_2_method_5_code
def y_Key_isInOrder : MethodName := ⟨"SnapshotStore$Key", "isInOrder", "(I)Z"⟩
abbrev b_L_begin : ByteArray := method_3_code
def y_L_begin : MethodName := ⟨"SnapshotStoreLaw", "begin", "(LSnapshotStore;I[J)I"⟩
abbrev b_S_begin : ByteArray := prog_1_method_2_code
def y_S_begin : MethodName := ⟨"SnapshotStore", "begin", "(I)I"⟩
abbrev b_Tx_init : ByteArray := prog_5_method_1_code
def y_Tx_init : MethodName := ⟨"SnapshotStore$Transaction", "<init>", "(II)V"⟩
abbrev b_L_read : ByteArray := method_4_code
def y_L_read : MethodName := ⟨"SnapshotStoreLaw", "read", "(LSnapshotStore;II[J)I"⟩
abbrev b_S_read : ByteArray := prog_1_method_3_code
def y_S_read : MethodName := ⟨"SnapshotStore", "read", "(II)I"⟩
abbrev b_S_openOne : ByteArray := prog_1_method_22_code
def y_S_openOne : MethodName := ⟨"SnapshotStore", "openOne", "(I)LSnapshotStore$Transaction;"⟩
abbrev b_S_anyOne : ByteArray := prog_1_method_21_code
def y_S_anyOne : MethodName := ⟨"SnapshotStore", "anyOne", "(I)LSnapshotStore$Transaction;"⟩
abbrev b_S_noteRange : ByteArray := prog_1_method_24_code
def y_S_noteRange : MethodName := ⟨"SnapshotStore", "noteRange", "(LSnapshotStore$Transaction;II)V"⟩
abbrev b_S_countNote : ByteArray := prog_1_method_23_code
def y_S_countNote : MethodName := ⟨"SnapshotStore", "countNote", "()V"⟩
abbrev b_Range_init : ByteArray := prog_4_method_1_code
def y_Range_init : MethodName := ⟨"SnapshotStore$Range", "<init>", "(IILSnapshotStore$Range;)V"⟩
abbrev b_S_seenBy : ByteArray := prog_1_method_29_code
def y_S_seenBy : MethodName := ⟨"SnapshotStore", "seenBy", "(LSnapshotStore$Transaction;LSnapshotStore$Key;)J"⟩
abbrev b_Tx_writeOf : ByteArray := prog_5_method_4_code
def y_Tx_writeOf : MethodName := ⟨"SnapshotStore$Transaction", "writeOf", "(I)LSnapshotStore$Write;"⟩
abbrev b_L_found : ByteArray := method_5_code
def y_L_found : MethodName := ⟨"SnapshotStoreLaw", "found", "(LSnapshotStore;II[J)I"⟩
abbrev b_S_found : ByteArray := prog_1_method_4_code
def y_S_found : MethodName := ⟨"SnapshotStore", "found", "(II)Z"⟩
abbrev b_L_write : ByteArray := method_6_code
def y_L_write : MethodName := ⟨"SnapshotStoreLaw", "write", "(LSnapshotStore;III[J)I"⟩
abbrev b_S_write : ByteArray := prog_1_method_5_code
def y_S_write : MethodName := ⟨"SnapshotStore", "write", "(III)I"⟩
abbrev b_S_put : ByteArray := prog_1_method_25_code
def y_S_put : MethodName := ⟨"SnapshotStore", "put", "(LSnapshotStore$Transaction;IJ)I"⟩
abbrev b_S_placeKey : ByteArray := prog_1_method_27_code
def y_S_placeKey : MethodName := ⟨"SnapshotStore", "placeKey", "(I)V"⟩
abbrev b_Key_init : ByteArray := prog_2_method_1_code
def y_Key_init : MethodName := ⟨"SnapshotStore$Key", "<init>", "(ILSnapshotStore$Key;)V"⟩
abbrev b_Tx_writtenKeys : ByteArray := prog_5_method_3_code
def y_Tx_writtenKeys : MethodName := ⟨"SnapshotStore$Transaction", "writtenKeys", "()I"⟩
abbrev b_Wr_init : ByteArray := prog_7_method_1_code
def y_Wr_init : MethodName := ⟨"SnapshotStore$Write", "<init>", "(IJILSnapshotStore$Write;)V"⟩
abbrev b_L_erase : ByteArray := method_7_code
def y_L_erase : MethodName := ⟨"SnapshotStoreLaw", "erase", "(LSnapshotStore;II[J)I"⟩
abbrev b_S_erase : ByteArray := prog_1_method_6_code
def y_S_erase : MethodName := ⟨"SnapshotStore", "erase", "(II)I"⟩
abbrev b_L_sum : ByteArray := method_8_code
def y_L_sum : MethodName := ⟨"SnapshotStoreLaw", "sum", "(LSnapshotStore;III[J)I"⟩
abbrev b_S_sum : ByteArray := prog_1_method_7_code
def y_S_sum : MethodName := ⟨"SnapshotStore", "sum", "(III)J"⟩
abbrev b_L_key : ByteArray := method_9_code
def y_L_key : MethodName := ⟨"SnapshotStoreLaw", "key", "(LSnapshotStore;III[J)I"⟩
abbrev b_S_key : ByteArray := prog_1_method_8_code
def y_S_key : MethodName := ⟨"SnapshotStore", "key", "(III)J"⟩
abbrev b_S_seenKey : ByteArray := prog_1_method_31_code
def y_S_seenKey : MethodName := ⟨"SnapshotStore", "seenKey", "(LSnapshotStore$Transaction;II)LSnapshotStore$Key;"⟩
abbrev b_L_save : ByteArray := method_10_code
def y_L_save : MethodName := ⟨"SnapshotStoreLaw", "save", "(LSnapshotStore;I[J)I"⟩
abbrev b_S_save : ByteArray := prog_1_method_9_code
def y_S_save : MethodName := ⟨"SnapshotStore", "save", "(I)I"⟩
abbrev b_Tx_placeCount : ByteArray := prog_5_method_5_code
def y_Tx_placeCount : MethodName := ⟨"SnapshotStore$Transaction", "placeCount", "()I"⟩
abbrev b_Place_init : ByteArray := prog_3_method_1_code
def y_Place_init : MethodName := ⟨"SnapshotStore$Place", "<init>", "(ILSnapshotStore$Write;LSnapshotStore$Place;)V"⟩
abbrev b_L_back : ByteArray := method_11_code
def y_L_back : MethodName := ⟨"SnapshotStoreLaw", "back", "(LSnapshotStore;II[J)I"⟩
abbrev b_S_back : ByteArray := prog_1_method_10_code
def y_S_back : MethodName := ⟨"SnapshotStore", "back", "(II)I"⟩
abbrev b_Tx_placeNumbered : ByteArray := prog_5_method_6_code
def y_Tx_placeNumbered : MethodName := ⟨"SnapshotStore$Transaction", "placeNumbered", "(I)LSnapshotStore$Place;"⟩
abbrev b_L_commit : ByteArray := method_12_code
def y_L_commit : MethodName := ⟨"SnapshotStoreLaw", "commit", "(LSnapshotStore;I[J)I"⟩
abbrev b_S_commit : ByteArray := prog_1_method_11_code
def y_S_commit : MethodName := ⟨"SnapshotStore", "commit", "(I)I"⟩
abbrev b_S_hasConflict : ByteArray := prog_1_method_32_code
def y_S_hasConflict : MethodName := ⟨"SnapshotStore", "hasConflict", "(LSnapshotStore$Transaction;)Z"⟩
abbrev b_S_hasAfter : ByteArray := prog_1_method_33_code
def y_S_hasAfter : MethodName := ⟨"SnapshotStore", "hasAfter", "(LSnapshotStore$Transaction;Z)Z"⟩
abbrev b_Tx_committedAbove : ByteArray := prog_5_method_7_code
def y_Tx_committedAbove : MethodName := ⟨"SnapshotStore$Transaction", "committedAbove", "(I)Z"⟩
abbrev b_Tx_hasReadAnyOf : ByteArray := prog_5_method_8_code
def y_Tx_hasReadAnyOf : MethodName := ⟨"SnapshotStore$Transaction", "hasReadAnyOf", "(LSnapshotStore$Write;)Z"⟩
abbrev b_Tx_hasRead : ByteArray := prog_5_method_9_code
def y_Tx_hasRead : MethodName := ⟨"SnapshotStore$Transaction", "hasRead", "(I)Z"⟩
abbrev b_S_hasBefore : ByteArray := prog_1_method_34_code
def y_S_hasBefore : MethodName := ⟨"SnapshotStore", "hasBefore", "(LSnapshotStore$Transaction;)Z"⟩
abbrev b_S_addVersions : ByteArray := prog_1_method_35_code
def y_S_addVersions : MethodName := ⟨"SnapshotStore", "addVersions", "(LSnapshotStore$Transaction;)V"⟩
abbrev b_Ver_init : ByteArray := prog_6_method_1_code
def y_Ver_init : MethodName := ⟨"SnapshotStore$Version", "<init>", "(IJLSnapshotStore$Version;)V"⟩
abbrev b_L_abort : ByteArray := method_13_code
def y_L_abort : MethodName := ⟨"SnapshotStoreLaw", "abort", "(LSnapshotStore;I[J)I"⟩
abbrev b_S_abort : ByteArray := prog_1_method_12_code
def y_S_abort : MethodName := ⟨"SnapshotStore", "abort", "(I)I"⟩
abbrev b_L_told : ByteArray := method_14_code
def y_L_told : MethodName := ⟨"SnapshotStoreLaw", "told", "(LSnapshotStore;II[J)I"⟩
abbrev b_S_told : ByteArray := prog_1_method_16_code
def y_S_told : MethodName := ⟨"SnapshotStore", "told", "(II)I"⟩
abbrev b_M_init : ByteArray := prog_9_method_1_code
def y_M_init : MethodName := ⟨"SnapshotStoreModel", "<init>", "()V"⟩
abbrev b_M_thrown : ByteArray := prog_9_method_2_code
def y_M_thrown : MethodName := ⟨"SnapshotStoreModel", "thrown", "()I"⟩
abbrev b_M_begin : ByteArray := prog_9_method_13_code
def y_M_begin : MethodName := ⟨"SnapshotStoreModel", "begin", "(I)I"⟩
abbrev b_M_read : ByteArray := prog_9_method_14_code
def y_M_read : MethodName := ⟨"SnapshotStoreModel", "read", "(II)I"⟩
abbrev b_M_isOpen : ByteArray := prog_9_method_4_code
def y_M_isOpen : MethodName := ⟨"SnapshotStoreModel", "isOpen", "(I)Z"⟩
abbrev b_M_isTransaction : ByteArray := prog_9_method_3_code
def y_M_isTransaction : MethodName := ⟨"SnapshotStoreModel", "isTransaction", "(I)Z"⟩
abbrev b_M_noteRead : ByteArray := prog_9_method_10_code
def y_M_noteRead : MethodName := ⟨"SnapshotStoreModel", "noteRead", "(III)V"⟩
abbrev b_M_look : ByteArray := prog_9_method_8_code
def y_M_look : MethodName := ⟨"SnapshotStoreModel", "look", "(II)V"⟩
abbrev b_M_writeOf : ByteArray := prog_9_method_7_code
def y_M_writeOf : MethodName := ⟨"SnapshotStoreModel", "writeOf", "(II)I"⟩
abbrev b_M_lookAt : ByteArray := prog_9_method_6_code
def y_M_lookAt : MethodName := ⟨"SnapshotStoreModel", "lookAt", "(II)V"⟩
abbrev b_M_versionAt : ByteArray := prog_9_method_5_code
def y_M_versionAt : MethodName := ⟨"SnapshotStoreModel", "versionAt", "(II)I"⟩
abbrev b_M_found : ByteArray := prog_9_method_15_code
def y_M_found : MethodName := ⟨"SnapshotStoreModel", "found", "(II)Z"⟩
abbrev b_M_write : ByteArray := prog_9_method_17_code
def y_M_write : MethodName := ⟨"SnapshotStoreModel", "write", "(III)I"⟩
abbrev b_M_note : ByteArray := prog_9_method_16_code
def y_M_note : MethodName := ⟨"SnapshotStoreModel", "note", "(IIIZ)I"⟩
abbrev b_M_keysOf : ByteArray := prog_9_method_12_code
def y_M_keysOf : MethodName := ⟨"SnapshotStoreModel", "keysOf", "(I)I"⟩
abbrev b_M_erase : ByteArray := prog_9_method_18_code
def y_M_erase : MethodName := ⟨"SnapshotStoreModel", "erase", "(II)I"⟩
abbrev b_M_sum : ByteArray := prog_9_method_19_code
def y_M_sum : MethodName := ⟨"SnapshotStoreModel", "sum", "(III)J"⟩
abbrev b_M_nextKey : ByteArray := prog_9_method_9_code
def y_M_nextKey : MethodName := ⟨"SnapshotStoreModel", "nextKey", "(IJ)J"⟩
abbrev b_M_key : ByteArray := prog_9_method_20_code
def y_M_key : MethodName := ⟨"SnapshotStoreModel", "key", "(III)J"⟩
abbrev b_M_save : ByteArray := prog_9_method_21_code
def y_M_save : MethodName := ⟨"SnapshotStoreModel", "save", "(I)I"⟩
abbrev b_M_back : ByteArray := prog_9_method_22_code
def y_M_back : MethodName := ⟨"SnapshotStoreModel", "back", "(II)I"⟩
abbrev b_M_commit : ByteArray := prog_9_method_27_code
def y_M_commit : MethodName := ⟨"SnapshotStoreModel", "commit", "(I)I"⟩
abbrev b_M_conflicts : ByteArray := prog_9_method_24_code
def y_M_conflicts : MethodName := ⟨"SnapshotStoreModel", "conflicts", "(I)Z"⟩
abbrev b_M_isUnsafe : ByteArray := prog_9_method_25_code
def y_M_isUnsafe : MethodName := ⟨"SnapshotStoreModel", "isUnsafe", "(I)Z"⟩
abbrev b_M_isLater : ByteArray := prog_9_method_23_code
def y_M_isLater : MethodName := ⟨"SnapshotStoreModel", "isLater", "(II)Z"⟩
abbrev b_M_hasRead : ByteArray := prog_9_method_11_code
def y_M_hasRead : MethodName := ⟨"SnapshotStoreModel", "hasRead", "(II)Z"⟩
abbrev b_M_end : ByteArray := prog_9_method_26_code
def y_M_end : MethodName := ⟨"SnapshotStoreModel", "end", "(II)I"⟩
abbrev b_M_abort : ByteArray := prog_9_method_28_code
def y_M_abort : MethodName := ⟨"SnapshotStoreModel", "abort", "(I)I"⟩
abbrev b_M_vacuum : ByteArray := prog_9_method_32_code
def y_M_vacuum : MethodName := ⟨"SnapshotStoreModel", "vacuum", "()I"⟩
abbrev b_M_isHad : ByteArray := prog_9_method_30_code
def y_M_isHad : MethodName := ⟨"SnapshotStoreModel", "isHad", "(I)Z"⟩
abbrev b_M_close : ByteArray := prog_9_method_29_code
def y_M_close : MethodName := ⟨"SnapshotStoreModel", "close", "()I"⟩
abbrev b_M_leastStamp : ByteArray := prog_9_method_31_code
def y_M_leastStamp : MethodName := ⟨"SnapshotStoreModel", "leastStamp", "()I"⟩
abbrev b_M_flush : ByteArray := prog_9_method_33_code
def y_M_flush : MethodName := ⟨"SnapshotStoreModel", "flush", "()I"⟩
abbrev b_M_crash : ByteArray := prog_9_method_34_code
def y_M_crash : MethodName := ⟨"SnapshotStoreModel", "crash", "()I"⟩
abbrev b_M_told : ByteArray := prog_9_method_35_code
def y_M_told : MethodName := ⟨"SnapshotStoreModel", "told", "(II)I"⟩
abbrev b_M_at : ByteArray := prog_9_method_36_code
def y_M_at : MethodName := ⟨"SnapshotStoreModel", "at", "(IZ)I"⟩
abbrev b_M_versions : ByteArray := prog_9_method_37_code
def y_M_versions : MethodName := ⟨"SnapshotStoreModel", "versions", "(I)I"⟩
abbrev b_M_count : ByteArray := prog_9_method_38_code
def y_M_count : MethodName := ⟨"SnapshotStoreModel", "count", "(I)I"⟩
abbrev b_M_astray : ByteArray := prog_9_method_39_code
def y_M_astray : MethodName := ⟨"SnapshotStoreModel", "astray", "()I"⟩
