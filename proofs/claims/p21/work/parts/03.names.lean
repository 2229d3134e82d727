/-! ===== BEGIN printed: names, fields, word lists, decode rows ===== -/
def RX0 : String := "SchemaSubjects$Field"
def TX0 : u_T := fun k => match k with
  | 0 => ("SchemaSubjects$Field", "name", "I", true)
  | 1 => ("SchemaSubjects$Field", "type", "I", true)
  | 2 => ("SchemaSubjects$Field", "size", "I", true)
  | 3 => ("SchemaSubjects$Field", "alias", "I", true)
  | 4 => ("SchemaSubjects$Field", "reference", "I", true)
  | 5 => ("SchemaSubjects$Field", "referred", "LSchemaSubjects$Schema;", true)
  | 6 => ("SchemaSubjects$Field", "begin", "I", false)
  | 7 => ("SchemaSubjects$Field", "hasDefault", "Z", false)
  | _ => ("SchemaSubjects$Field", "defaultNumber", "I", false)
def tyX0 : Nat → FieldType := fun k => match k with
  | 0 => .int
  | 1 => .int
  | 2 => .int
  | 3 => .int
  | 4 => .int
  | 5 => .object "SchemaSubjects$Schema"
  | 6 => .int
  | 7 => .boolean
  | _ => .int
abbrev wsX00 : List Cond := u_ws RX0 TX0 9
theorem nmX0 : ∀ a, a < 9 → ∀ b, b < 9 → a ≠ b → (TX0 a).2.1 ≠ (TX0 b).2.1 := by decide +kernel
theorem tyX0_ok : ∀ k, k < 9 → parseFieldDescriptor (TX0 k).2.2.1 = some (tyX0 k) := by decide +kernel
abbrev cX0_init : ByteArray := prog_2_method_1_code
def yX0_init : MethodName := ⟨RX0, "<init>", "(IIIIILSchemaSubjects$Schema;)V"⟩
abbrev cX0_isReadFromType : ByteArray := prog_2_method_2_code
def yX0_isReadFromType : MethodName := ⟨RX0, "isReadFromType", "(I)Z"⟩
abbrev cX0_isLike : ByteArray := prog_2_method_3_code
def yX0_isLike : MethodName := ⟨RX0, "isLike", "(LSchemaSubjects$Field;)Z"⟩
def RX1 : String := "SchemaSubjects$Row"
def TX1 : u_T := fun k => match k with
  | 0 => ("SchemaSubjects$Row", "numbers", "[I", true)
  | _ => ("SchemaSubjects$Row", "used", "I", false)
def tyX1 : Nat → FieldType := fun k => match k with
  | 0 => .array .int
  | _ => .int
abbrev wsX10 : List Cond := u_ws RX1 TX1 2
theorem nmX1 : ∀ a, a < 2 → ∀ b, b < 2 → a ≠ b → (TX1 a).2.1 ≠ (TX1 b).2.1 := by decide +kernel
theorem tyX1_ok : ∀ k, k < 2 → parseFieldDescriptor (TX1 k).2.2.1 = some (tyX1 k) := by decide +kernel
abbrev cX1_init : ByteArray := prog_3_method_1_code
def yX1_init : MethodName := ⟨RX1, "<init>", "()V"⟩
abbrev cX1_count : ByteArray := prog_3_method_2_code
def yX1_count : MethodName := ⟨RX1, "count", "()I"⟩
abbrev cX1_at : ByteArray := prog_3_method_3_code
def yX1_at : MethodName := ⟨RX1, "at", "(I)I"⟩
abbrev cX1_add : ByteArray := prog_3_method_4_code
def yX1_add : MethodName := ⟨RX1, "add", "(I)V"⟩
abbrev cX1_addAll : ByteArray := prog_3_method_5_code
def yX1_addAll : MethodName := ⟨RX1, "addAll", "(LSchemaSubjects$Row;)V"⟩
abbrev cX1_empty : ByteArray := prog_3_method_6_code
def yX1_empty : MethodName := ⟨RX1, "empty", "()V"⟩
def RX2 : String := "SchemaSubjects$Schema"
def TX2 : u_T := fun k => match k with
  | 0 => ("SchemaSubjects$Schema", "fields", "Ljava/util/ArrayList;", true)
  | 1 => ("SchemaSubjects$Schema", "places", "LSchemaSubjects$Row;", true)
  | _ => ("SchemaSubjects$Schema", "rank", "I", false)
def tyX2 : Nat → FieldType := fun k => match k with
  | 0 => .object "java/util/ArrayList"
  | 1 => .object "SchemaSubjects$Row"
  | _ => .int
abbrev wsX20 : List Cond := u_ws RX2 TX2 3
theorem nmX2 : ∀ a, a < 3 → ∀ b, b < 3 → a ≠ b → (TX2 a).2.1 ≠ (TX2 b).2.1 := by decide +kernel
theorem tyX2_ok : ∀ k, k < 3 → parseFieldDescriptor (TX2 k).2.2.1 = some (tyX2 k) := by decide +kernel
abbrev cX2_init : ByteArray := prog_4_method_1_code
def yX2_init : MethodName := ⟨RX2, "<init>", "()V"⟩
abbrev cX2_append : ByteArray := prog_4_method_2_code
def yX2_append : MethodName := ⟨RX2, "append", "(LSchemaSubjects$Field;)V"⟩
abbrev cX2_empty : ByteArray := prog_4_method_3_code
def yX2_empty : MethodName := ⟨RX2, "empty", "()V"⟩
abbrev cX2_last : ByteArray := prog_4_method_4_code
def yX2_last : MethodName := ⟨RX2, "last", "()LSchemaSubjects$Field;"⟩
abbrev cX2_named : ByteArray := prog_4_method_5_code
def yX2_named : MethodName := ⟨RX2, "named", "(I)LSchemaSubjects$Field;"⟩
abbrev cX2_sourceOf : ByteArray := prog_4_method_6_code
def yX2_sourceOf : MethodName := ⟨RX2, "sourceOf", "(LSchemaSubjects$Field;)LSchemaSubjects$Field;"⟩
abbrev cX2_refersTo : ByteArray := prog_4_method_7_code
def yX2_refersTo : MethodName := ⟨RX2, "refersTo", "(I)Z"⟩
abbrev cX2_isLike : ByteArray := prog_4_method_8_code
def yX2_isLike : MethodName := ⟨RX2, "isLike", "(LSchemaSubjects$Schema;)Z"⟩
def RX3 : String := "SchemaSubjects$Subject"
def TX3 : u_T := fun k => match k with
  | 0 => ("SchemaSubjects$Subject", "history", "Ljava/util/ArrayList;", true)
  | 1 => ("SchemaSubjects$Subject", "mode", "I", false)
  | _ => ("SchemaSubjects$Subject", "asksForAll", "Z", false)
def tyX3 : Nat → FieldType := fun k => match k with
  | 0 => .object "java/util/ArrayList"
  | 1 => .int
  | _ => .boolean
abbrev wsX30 : List Cond := u_ws RX3 TX3 3
theorem nmX3 : ∀ a, a < 3 → ∀ b, b < 3 → a ≠ b → (TX3 a).2.1 ≠ (TX3 b).2.1 := by decide +kernel
theorem tyX3_ok : ∀ k, k < 3 → parseFieldDescriptor (TX3 k).2.2.1 = some (tyX3 k) := by decide +kernel
abbrev cX3_init : ByteArray := prog_5_method_1_code
def yX3_init : MethodName := ⟨RX3, "<init>", "()V"⟩
abbrev cX3_keptVersion : ByteArray := prog_5_method_2_code
def yX3_keptVersion : MethodName := ⟨RX3, "keptVersion", "(I)LSchemaSubjects$Version;"⟩
abbrev cX3_countThere : ByteArray := prog_5_method_3_code
def yX3_countThere : MethodName := ⟨RX3, "countThere", "()I"⟩
abbrev cX3_lowestLike : ByteArray := prog_5_method_4_code
def yX3_lowestLike : MethodName := ⟨RX3, "lowestLike", "(LSchemaSubjects$Schema;)I"⟩
abbrev cX3_refersTo : ByteArray := prog_5_method_5_code
def yX3_refersTo : MethodName := ⟨RX3, "refersTo", "(I)Z"⟩
abbrev cX3_accepts : ByteArray := prog_5_method_6_code
def yX3_accepts : MethodName := ⟨RX3, "accepts", "(LSchemaSubjects$Schema;)Z"⟩
abbrev cX3_agrees : ByteArray := prog_5_method_7_code
def yX3_agrees : MethodName := ⟨RX3, "agrees", "(LSchemaSubjects$Schema;LSchemaSubjects$Schema;)Z"⟩
def RX4 : String := "SchemaSubjects$Version"
def TX4 : u_T := fun k => match k with
  | 0 => ("SchemaSubjects$Version", "schema", "LSchemaSubjects$Schema;", true)
  | _ => ("SchemaSubjects$Version", "state", "I", false)
def tyX4 : Nat → FieldType := fun k => match k with
  | 0 => .object "SchemaSubjects$Schema"
  | _ => .int
abbrev wsX40 : List Cond := u_ws RX4 TX4 2
theorem nmX4 : ∀ a, a < 2 → ∀ b, b < 2 → a ≠ b → (TX4 a).2.1 ≠ (TX4 b).2.1 := by decide +kernel
theorem tyX4_ok : ∀ k, k < 2 → parseFieldDescriptor (TX4 k).2.2.1 = some (tyX4 k) := by decide +kernel
abbrev cX4_init : ByteArray := prog_6_method_1_code
def yX4_init : MethodName := ⟨RX4, "<init>", "(LSchemaSubjects$Schema;)V"⟩
def RX5 : String := "SchemaSubjects"
def TX5 : u_T := fun k => match k with
  | 0 => ("SchemaSubjects", "subjects", "Ljava/util/ArrayList;", true)
  | 1 => ("SchemaSubjects", "numbered", "Ljava/util/ArrayList;", true)
  | 2 => ("SchemaSubjects", "draft", "LSchemaSubjects$Schema;", false)
  | 3 => ("SchemaSubjects", "recordDraft", "LSchemaSubjects$Row;", false)
  | 4 => ("SchemaSubjects", "spare", "LSchemaSubjects$Row;", false)
  | _ => ("SchemaSubjects", "trial", "LSchemaSubjects$Row;", true)
def tyX5 : Nat → FieldType := fun k => match k with
  | 0 => .object "java/util/ArrayList"
  | 1 => .object "java/util/ArrayList"
  | 2 => .object "SchemaSubjects$Schema"
  | 3 => .object "SchemaSubjects$Row"
  | 4 => .object "SchemaSubjects$Row"
  | _ => .object "SchemaSubjects$Row"
abbrev wsX50 : List Cond := u_ws RX5 TX5 6
theorem nmX5 : ∀ a, a < 6 → ∀ b, b < 6 → a ≠ b → (TX5 a).2.1 ≠ (TX5 b).2.1 := by decide +kernel
theorem tyX5_ok : ∀ k, k < 6 → parseFieldDescriptor (TX5 k).2.2.1 = some (tyX5 k) := by decide +kernel
abbrev cX5_init : ByteArray := prog_1_method_1_code
def yX5_init : MethodName := ⟨RX5, "<init>", "()V"⟩
abbrev cX5_field : ByteArray := prog_1_method_2_code
def yX5_field : MethodName := ⟨RX5, "field", "(IIII)I"⟩
abbrev cX5_byDefault : ByteArray := prog_1_method_3_code
def yX5_byDefault : MethodName := ⟨RX5, "byDefault", "(I)I"⟩
abbrev cX5_discard : ByteArray := prog_1_method_4_code
def yX5_discard : MethodName := ⟨RX5, "discard", "()I"⟩
abbrev cX5_isAccepted : ByteArray := prog_1_method_5_code
def yX5_isAccepted : MethodName := ⟨RX5, "isAccepted", "(I)Z"⟩
abbrev cX5_register : ByteArray := prog_1_method_6_code
def yX5_register : MethodName := ⟨RX5, "register", "(I)I"⟩
abbrev cX5_setMode : ByteArray := prog_1_method_7_code
def yX5_setMode : MethodName := ⟨RX5, "setMode", "(IIZ)I"⟩
abbrev cX5_delete : ByteArray := prog_1_method_8_code
def yX5_delete : MethodName := ⟨RX5, "delete", "(IIZ)I"⟩
abbrev cX5_versions : ByteArray := prog_1_method_9_code
def yX5_versions : MethodName := ⟨RX5, "versions", "(I)I"⟩
abbrev cX5_number : ByteArray := prog_1_method_10_code
def yX5_number : MethodName := ⟨RX5, "number", "(II)I"⟩
abbrev cX5_length : ByteArray := prog_1_method_12_code
def yX5_length : MethodName := ⟨RX5, "length", "(II)I"⟩
abbrev cX5_canRead : ByteArray := prog_1_method_13_code
def yX5_canRead : MethodName := ⟨RX5, "canRead", "(IIII)Z"⟩
abbrev cX5_readsAll : ByteArray := prog_1_method_14_code
def yX5_readsAll : MethodName := ⟨RX5, "readsAll", "(IIII)Z"⟩
abbrev cX5_value : ByteArray := prog_1_method_15_code
def yX5_value : MethodName := ⟨RX5, "value", "(I)I"⟩
abbrev cX5_clear : ByteArray := prog_1_method_16_code
def yX5_clear : MethodName := ⟨RX5, "clear", "()I"⟩
abbrev cX5_isRecord : ByteArray := prog_1_method_17_code
def yX5_isRecord : MethodName := ⟨RX5, "isRecord", "(II)Z"⟩
abbrev cX5_read : ByteArray := prog_1_method_18_code
def yX5_read : MethodName := ⟨RX5, "read", "(IIII)I"⟩
abbrev cX5_valueAt : ByteArray := prog_1_method_19_code
def yX5_valueAt : MethodName := ⟨RX5, "valueAt", "(I)I"⟩
abbrev cX5_demandedSubject : ByteArray := prog_1_method_20_code
def yX5_demandedSubject : MethodName := ⟨RX5, "demandedSubject", "(I)LSchemaSubjects$Subject;"⟩
abbrev cX5_demandSubjects : ByteArray := prog_1_method_21_code
def yX5_demandSubjects : MethodName := ⟨RX5, "demandSubjects", "(II)V"⟩
abbrev cX5_demandedVersion : ByteArray := prog_1_method_22_code
def yX5_demandedVersion : MethodName := ⟨RX5, "demandedVersion", "(LSchemaSubjects$Subject;I)LSchemaSubjects$Version;"⟩
abbrev cX5_demandedSchema : ByteArray := prog_1_method_23_code
def yX5_demandedSchema : MethodName := ⟨RX5, "demandedSchema", "(II)LSchemaSubjects$Schema;"⟩
abbrev cX5_demandDraft : ByteArray := prog_1_method_24_code
def yX5_demandDraft : MethodName := ⟨RX5, "demandDraft", "()V"⟩
abbrev cX5_isName : ByteArray := prog_1_method_25_code
def yX5_isName : MethodName := ⟨RX5, "isName", "(I)Z"⟩
abbrev cX5_isType : ByteArray := prog_1_method_26_code
def yX5_isType : MethodName := ⟨RX5, "isType", "(I)Z"⟩
abbrev cX5_isSize : ByteArray := prog_1_method_27_code
def yX5_isSize : MethodName := ⟨RX5, "isSize", "(I)Z"⟩
abbrev cX5_sizeOf : ByteArray := prog_1_method_28_code
def yX5_sizeOf : MethodName := ⟨RX5, "sizeOf", "(II)I"⟩
abbrev cX5_isOfSize : ByteArray := prog_1_method_29_code
def yX5_isOfSize : MethodName := ⟨RX5, "isOfSize", "(II)Z"⟩
abbrev cX5_referable : ByteArray := prog_1_method_30_code
def yX5_referable : MethodName := ⟨RX5, "referable", "(I)LSchemaSubjects$Schema;"⟩
abbrev cX5_isReferredTo : ByteArray := prog_1_method_31_code
def yX5_isReferredTo : MethodName := ⟨RX5, "isReferredTo", "(I)Z"⟩
abbrev cX5_takeDraft : ByteArray := prog_1_method_32_code
def yX5_takeDraft : MethodName := ⟨RX5, "takeDraft", "()LSchemaSubjects$Schema;"⟩
abbrev cX5_canReadSchema : ByteArray := prog_1_method_33_code
def yX5_canReadSchema : MethodName := ⟨RX5, "canReadSchema", "(LSchemaSubjects$Schema;LSchemaSubjects$Schema;I)Z"⟩
abbrev cX5_canReadField : ByteArray := prog_1_method_34_code
def yX5_canReadField : MethodName := ⟨RX5, "canReadField", "(LSchemaSubjects$Field;LSchemaSubjects$Schema;I)Z"⟩
abbrev cX5_isRecordOf : ByteArray := prog_1_method_35_code
def yX5_isRecordOf : MethodName := ⟨RX5, "isRecordOf", "(LSchemaSubjects$Schema;)Z"⟩
abbrev cX5_readSchema : ByteArray := prog_1_method_36_code
def yX5_readSchema : MethodName := ⟨RX5, "readSchema", "(LSchemaSubjects$Schema;LSchemaSubjects$Schema;LSchemaSubjects$Row;ILSchemaSubjects$Row;I)Z"⟩
abbrev cX5_readField : ByteArray := prog_1_method_37_code
def yX5_readField : MethodName := ⟨RX5, "readField", "(LSchemaSubjects$Field;LSchemaSubjects$Schema;LSchemaSubjects$Row;ILSchemaSubjects$Row;I)Z"⟩
abbrev cX5_readDefault : ByteArray := prog_1_method_38_code
def yX5_readDefault : MethodName := ⟨RX5, "readDefault", "(LSchemaSubjects$Field;LSchemaSubjects$Row;)Z"⟩
abbrev cX5_countSmallRecords : ByteArray := prog_1_method_39_code
def yX5_countSmallRecords : MethodName := ⟨RX5, "countSmallRecords", "(LSchemaSubjects$Row;)I"⟩
abbrev cX5_putSmallRecord : ByteArray := prog_1_method_40_code
def yX5_putSmallRecord : MethodName := ⟨RX5, "putSmallRecord", "(LSchemaSubjects$Row;LSchemaSubjects$Row;I)V"⟩
def RX6 : String := "SchemaSubjectsModel"
def TX6 : u_T := fun k => match k with
  | _ => ("", "", "", false)
def tyX6 : Nat → FieldType := fun k => match k with
  | _ => .int
abbrev wsX60 : List Cond := u_ws RX6 TX6 0
theorem nmX6 : ∀ a, a < 0 → ∀ b, b < 0 → a ≠ b → (TX6 a).2.1 ≠ (TX6 b).2.1 := by decide +kernel
theorem tyX6_ok : ∀ k, k < 0 → parseFieldDescriptor (TX6 k).2.2.1 = some (tyX6 k) := by decide +kernel
def RJx145de : String := "java/io/Serializable"
def TJx145de : u_T := fun k => match k with
  | _ => ("", "", "", false)
def tyJx145de : Nat → FieldType := fun k => match k with
  | _ => .int
abbrev wsJx145de0 : List Cond := u_ws RJx145de TJx145de 0
theorem nmJx145de : ∀ a, a < 0 → ∀ b, b < 0 → a ≠ b → (TJx145de a).2.1 ≠ (TJx145de b).2.1 := by decide +kernel
theorem tyJx145de_ok : ∀ k, k < 0 → parseFieldDescriptor (TJx145de k).2.2.1 = some (tyJx145de k) := by decide +kernel
def RJx8e188 : String := "java/lang/Cloneable"
def TJx8e188 : u_T := fun k => match k with
  | _ => ("", "", "", false)
def tyJx8e188 : Nat → FieldType := fun k => match k with
  | _ => .int
abbrev wsJx8e1880 : List Cond := u_ws RJx8e188 TJx8e188 0
theorem nmJx8e188 : ∀ a, a < 0 → ∀ b, b < 0 → a ≠ b → (TJx8e188 a).2.1 ≠ (TJx8e188 b).2.1 := by decide +kernel
theorem tyJx8e188_ok : ∀ k, k < 0 → parseFieldDescriptor (TJx8e188 k).2.2.1 = some (tyJx8e188 k) := by decide +kernel
def RJxab1ab : String := "java/lang/Iterable"
def TJxab1ab : u_T := fun k => match k with
  | _ => ("", "", "", false)
def tyJxab1ab : Nat → FieldType := fun k => match k with
  | _ => .int
abbrev wsJxab1ab0 : List Cond := u_ws RJxab1ab TJxab1ab 0
theorem nmJxab1ab : ∀ a, a < 0 → ∀ b, b < 0 → a ≠ b → (TJxab1ab a).2.1 ≠ (TJxab1ab b).2.1 := by decide +kernel
theorem tyJxab1ab_ok : ∀ k, k < 0 → parseFieldDescriptor (TJxab1ab k).2.2.1 = some (tyJxab1ab k) := by decide +kernel
def RJ9 : String := "java/lang/Math"
def TJ9 : u_T := fun k => match k with
  | _ => ("", "", "", false)
def tyJ9 : Nat → FieldType := fun k => match k with
  | _ => .int
abbrev wsJ90 : List Cond := u_ws RJ9 TJ9 0
theorem nmJ9 : ∀ a, a < 0 → ∀ b, b < 0 → a ≠ b → (TJ9 a).2.1 ≠ (TJ9 b).2.1 := by decide +kernel
theorem tyJ9_ok : ∀ k, k < 0 → parseFieldDescriptor (TJ9 k).2.2.1 = some (tyJ9 k) := by decide +kernel
abbrev cJ9_max_7cf53 : ByteArray := prog_16_method_65_code
def yJ9_max_7cf53 : MethodName := ⟨RJ9, "max", "(II)I"⟩
abbrev cJ9_min_7cf53 : ByteArray := prog_16_method_69_code
def yJ9_min_7cf53 : MethodName := ⟨RJ9, "min", "(II)I"⟩
def RJ0 : String := "java/lang/String"
def TJ0 : u_T := fun k => match k with
  | _ => ("", "", "", false)
def tyJ0 : Nat → FieldType := fun k => match k with
  | _ => .int
abbrev wsJ00 : List Cond := u_ws RJ0 TJ0 0
theorem nmJ0 : ∀ a, a < 0 → ∀ b, b < 0 → a ≠ b → (TJ0 a).2.1 ≠ (TJ0 b).2.1 := by decide +kernel
theorem tyJ0_ok : ∀ k, k < 0 → parseFieldDescriptor (TJ0 k).2.2.1 = some (tyJ0 k) := by decide +kernel
def RJ10 : String := "java/lang/System"
def TJ10 : u_T := fun k => match k with
  | _ => ("", "", "", false)
def tyJ10 : Nat → FieldType := fun k => match k with
  | _ => .int
abbrev wsJ100 : List Cond := u_ws RJ10 TJ10 0
theorem nmJ10 : ∀ a, a < 0 → ∀ b, b < 0 → a ≠ b → (TJ10 a).2.1 ≠ (TJ10 b).2.1 := by decide +kernel
theorem tyJ10_ok : ∀ k, k < 0 → parseFieldDescriptor (TJ10 k).2.2.1 = some (tyJ10 k) := by decide +kernel
def RJxa1e45 : String := "java/util/AbstractCollection"
def TJxa1e45 : u_T := fun k => match k with
  | _ => ("", "", "", false)
def tyJxa1e45 : Nat → FieldType := fun k => match k with
  | _ => .int
abbrev wsJxa1e450 : List Cond := u_ws RJxa1e45 TJxa1e45 0
theorem nmJxa1e45 : ∀ a, a < 0 → ∀ b, b < 0 → a ≠ b → (TJxa1e45 a).2.1 ≠ (TJxa1e45 b).2.1 := by decide +kernel
theorem tyJxa1e45_ok : ∀ k, k < 0 → parseFieldDescriptor (TJxa1e45 k).2.2.1 = some (tyJxa1e45 k) := by decide +kernel
abbrev cJxa1e45_init_da8c8 : ByteArray := prog_21_method_1_code
def yJxa1e45_init_da8c8 : MethodName := ⟨RJxa1e45, "<init>", "()V"⟩
def RJxc12de : String := "java/util/AbstractList"
def TJxc12de : u_T := fun k => match k with
  | _ => ("", "", "", false)
def tyJxc12de : Nat → FieldType := fun k => match k with
  | _ => .int
abbrev wsJxc12de0 : List Cond := u_ws RJxc12de TJxc12de 0
theorem nmJxc12de : ∀ a, a < 0 → ∀ b, b < 0 → a ≠ b → (TJxc12de a).2.1 ≠ (TJxc12de b).2.1 := by decide +kernel
theorem tyJxc12de_ok : ∀ k, k < 0 → parseFieldDescriptor (TJxc12de k).2.2.1 = some (tyJxc12de k) := by decide +kernel
abbrev cJxc12de_init_da8c8 : ByteArray := prog_22_method_1_code
def yJxc12de_init_da8c8 : MethodName := ⟨RJxc12de, "<init>", "()V"⟩
def RJx4a65c : String := "java/util/ArrayList"
def TJx4a65c : u_T := fun k => match k with
  | 0 => ("java/util/AbstractList", "modCount", "I", false)
  | 1 => ("java/util/ArrayList", "elementData", "[Ljava/lang/Object;", false)
  | _ => ("java/util/ArrayList", "size", "I", false)
def tyJx4a65c : Nat → FieldType := fun k => match k with
  | 0 => .int
  | 1 => .array (.object "java/lang/Object")
  | _ => .int
abbrev wsJx4a65c0 : List Cond := u_ws RJx4a65c TJx4a65c 3
theorem nmJx4a65c : ∀ a, a < 3 → ∀ b, b < 3 → a ≠ b → (TJx4a65c a).2.1 ≠ (TJx4a65c b).2.1 := by decide +kernel
theorem tyJx4a65c_ok : ∀ k, k < 3 → parseFieldDescriptor (TJx4a65c k).2.2.1 = some (tyJx4a65c k) := by decide +kernel
abbrev cJx4a65c_init_da8c8 : ByteArray := prog_23_method_2_code
def yJx4a65c_init_da8c8 : MethodName := ⟨RJx4a65c, "<init>", "()V"⟩
abbrev cJx4a65c_grow_92f84 : ByteArray := prog_23_method_6_code
def yJx4a65c_grow_92f84 : MethodName := ⟨RJx4a65c, "grow", "(I)[Ljava/lang/Object;"⟩
abbrev cJx4a65c_grow_d5877 : ByteArray := prog_23_method_7_code
def yJx4a65c_grow_d5877 : MethodName := ⟨RJx4a65c, "grow", "()[Ljava/lang/Object;"⟩
abbrev cJx4a65c_size_8abf5 : ByteArray := prog_23_method_8_code
def yJx4a65c_size_8abf5 : MethodName := ⟨RJx4a65c, "size", "()I"⟩
abbrev cJx4a65c_isEmpty_aae02 : ByteArray := prog_23_method_9_code
def yJx4a65c_isEmpty_aae02 : MethodName := ⟨RJx4a65c, "isEmpty", "()Z"⟩
abbrev cJx4a65c_elementData_915e3 : ByteArray := prog_23_method_18_code
def yJx4a65c_elementData_915e3 : MethodName := ⟨RJx4a65c, "elementData", "(I)Ljava/lang/Object;"⟩
abbrev cJx4a65c_get_915e3 : ByteArray := prog_23_method_20_code
def yJx4a65c_get_915e3 : MethodName := ⟨RJx4a65c, "get", "(I)Ljava/lang/Object;"⟩
abbrev cJx4a65c_add_72be8 : ByteArray := prog_23_method_24_code
def yJx4a65c_add_72be8 : MethodName := ⟨RJx4a65c, "add", "(Ljava/lang/Object;[Ljava/lang/Object;I)V"⟩
abbrev cJx4a65c_add_9ea2d : ByteArray := prog_23_method_25_code
def yJx4a65c_add_9ea2d : MethodName := ⟨RJx4a65c, "add", "(Ljava/lang/Object;)Z"⟩
abbrev cJx4a65c_clear_da8c8 : ByteArray := prog_23_method_40_code
def yJx4a65c_clear_da8c8 : MethodName := ⟨RJx4a65c, "clear", "()V"⟩
def RJ7 : String := "java/util/Arrays"
def TJ7 : u_T := fun k => match k with
  | _ => ("", "", "", false)
def tyJ7 : Nat → FieldType := fun k => match k with
  | _ => .int
abbrev wsJ70 : List Cond := u_ws RJ7 TJ7 0
theorem nmJ7 : ∀ a, a < 0 → ∀ b, b < 0 → a ≠ b → (TJ7 a).2.1 ≠ (TJ7 b).2.1 := by decide +kernel
theorem tyJ7_ok : ∀ k, k < 0 → parseFieldDescriptor (TJ7 k).2.2.1 = some (tyJ7 k) := by decide +kernel
abbrev cJ7_copyOf_1904c : ByteArray := prog_24_method_119_code
def yJ7_copyOf_1904c : MethodName := ⟨RJ7, "copyOf", "([Ljava/lang/Object;I)[Ljava/lang/Object;"⟩
abbrev cJ7_copyOf_6403c : ByteArray := prog_24_method_120_code
def yJ7_copyOf_6403c : MethodName := ⟨RJ7, "copyOf", "([Ljava/lang/Object;ILjava/lang/Class;)[Ljava/lang/Object;"⟩
def RJx5ef63 : String := "java/util/Collection"
def TJx5ef63 : u_T := fun k => match k with
  | _ => ("", "", "", false)
def tyJx5ef63 : Nat → FieldType := fun k => match k with
  | _ => .int
abbrev wsJx5ef630 : List Cond := u_ws RJx5ef63 TJx5ef63 0
theorem nmJx5ef63 : ∀ a, a < 0 → ∀ b, b < 0 → a ≠ b → (TJx5ef63 a).2.1 ≠ (TJx5ef63 b).2.1 := by decide +kernel
theorem tyJx5ef63_ok : ∀ k, k < 0 → parseFieldDescriptor (TJx5ef63 k).2.2.1 = some (tyJx5ef63 k) := by decide +kernel
def RJxbd725 : String := "java/util/List"
def TJxbd725 : u_T := fun k => match k with
  | _ => ("", "", "", false)
def tyJxbd725 : Nat → FieldType := fun k => match k with
  | _ => .int
abbrev wsJxbd7250 : List Cond := u_ws RJxbd725 TJxbd725 0
theorem nmJxbd725 : ∀ a, a < 0 → ∀ b, b < 0 → a ≠ b → (TJxbd725 a).2.1 ≠ (TJxbd725 b).2.1 := by decide +kernel
theorem tyJxbd725_ok : ∀ k, k < 0 → parseFieldDescriptor (TJxbd725 k).2.2.1 = some (tyJxbd725 k) := by decide +kernel
def RJ15 : String := "java/util/Objects"
def TJ15 : u_T := fun k => match k with
  | _ => ("", "", "", false)
def tyJ15 : Nat → FieldType := fun k => match k with
  | _ => .int
abbrev wsJ150 : List Cond := u_ws RJ15 TJ15 0
theorem nmJ15 : ∀ a, a < 0 → ∀ b, b < 0 → a ≠ b → (TJ15 a).2.1 ≠ (TJ15 b).2.1 := by decide +kernel
theorem tyJ15_ok : ∀ k, k < 0 → parseFieldDescriptor (TJ15 k).2.2.1 = some (tyJ15 k) := by decide +kernel
abbrev cJ15_checkIndex_7cf53 : ByteArray := prog_27_method_17_code
def yJ15_checkIndex_7cf53 : MethodName := ⟨RJ15, "checkIndex", "(II)I"⟩
def RJxf0a74 : String := "java/util/RandomAccess"
def TJxf0a74 : u_T := fun k => match k with
  | _ => ("", "", "", false)
def tyJxf0a74 : Nat → FieldType := fun k => match k with
  | _ => .int
abbrev wsJxf0a740 : List Cond := u_ws RJxf0a74 TJxf0a74 0
theorem nmJxf0a74 : ∀ a, a < 0 → ∀ b, b < 0 → a ≠ b → (TJxf0a74 a).2.1 ≠ (TJxf0a74 b).2.1 := by decide +kernel
theorem tyJxf0a74_ok : ∀ k, k < 0 → parseFieldDescriptor (TJxf0a74 k).2.2.1 = some (tyJxf0a74 k) := by decide +kernel
def RJxa66e6 : String := "java/util/SequencedCollection"
def TJxa66e6 : u_T := fun k => match k with
  | _ => ("", "", "", false)
def tyJxa66e6 : Nat → FieldType := fun k => match k with
  | _ => .int
abbrev wsJxa66e60 : List Cond := u_ws RJxa66e6 TJxa66e6 0
theorem nmJxa66e6 : ∀ a, a < 0 → ∀ b, b < 0 → a ≠ b → (TJxa66e6 a).2.1 ≠ (TJxa66e6 b).2.1 := by decide +kernel
theorem tyJxa66e6_ok : ∀ k, k < 0 → parseFieldDescriptor (TJxa66e6 k).2.2.1 = some (tyJxa66e6 k) := by decide +kernel
def RJ8 : String := "jdk/internal/util/ArraysSupport"
def TJ8 : u_T := fun k => match k with
  | _ => ("", "", "", false)
def tyJ8 : Nat → FieldType := fun k => match k with
  | _ => .int
abbrev wsJ80 : List Cond := u_ws RJ8 TJ8 0
theorem nmJ8 : ∀ a, a < 0 → ∀ b, b < 0 → a ≠ b → (TJ8 a).2.1 ≠ (TJ8 b).2.1 := by decide +kernel
theorem tyJ8_ok : ∀ k, k < 0 → parseFieldDescriptor (TJ8 k).2.2.1 = some (tyJ8 k) := by decide +kernel
abbrev cJ8_newLength_cabcc : ByteArray := prog_30_method_27_code
def yJ8_newLength_cabcc : MethodName := ⟨RJ8, "newLength", "(III)I"⟩
abbrev cJ8_hugeLength_7cf53 : ByteArray := prog_30_method_28_code
def yJ8_hugeLength_7cf53 : MethodName := ⟨RJ8, "hugeLength", "(II)I"⟩
def RJ3 : String := "jdk/internal/util/Preconditions"
def TJ3 : u_T := fun k => match k with
  | _ => ("", "", "", false)
def tyJ3 : Nat → FieldType := fun k => match k with
  | _ => .int
abbrev wsJ30 : List Cond := u_ws RJ3 TJ3 0
theorem nmJ3 : ∀ a, a < 0 → ∀ b, b < 0 → a ≠ b → (TJ3 a).2.1 ≠ (TJ3 b).2.1 := by decide +kernel
theorem tyJ3_ok : ∀ k, k < 0 → parseFieldDescriptor (TJ3 k).2.2.1 = some (tyJ3 k) := by decide +kernel
abbrev cJ3_checkIndex_8e157 : ByteArray := prog_31_method_11_code
def yJ3_checkIndex_8e157 : MethodName := ⟨RJ3, "checkIndex", "(IILjava/util/function/BiFunction;)I"⟩
def RL : String := "SchemaSubjectsLaw"
abbrev cL_cell : ByteArray := method_2_code
def yL_cell : MethodName := ⟨RL, "cell", "([II)I"⟩
abbrev cL_low : ByteArray := method_3_code
def yL_low : MethodName := ⟨RL, "low", "(II)I"⟩
abbrev cL_field : ByteArray := method_4_code
def yL_field : MethodName := ⟨RL, "field", "(LSchemaSubjects;IIII)I"⟩
abbrev cL_does : ByteArray := method_5_code
def yL_does : MethodName := ⟨RL, "does", "(LSchemaSubjects;III)I"⟩
abbrev cL_reads : ByteArray := method_6_code
def yL_reads : MethodName := ⟨RL, "reads", "(LSchemaSubjects;III)I"⟩
abbrev cL_act : ByteArray := method_7_code
def yL_act : MethodName := ⟨RL, "act", "(LSchemaSubjects;IZ)I"⟩
abbrev cL_areAlike : ByteArray := method_8_code
def yL_areAlike : MethodName := ⟨RL, "areAlike", "(LSchemaSubjects;LSchemaSubjects;I)Z"⟩
abbrev cL_areVersionsSo : ByteArray := method_9_code
def yL_areVersionsSo : MethodName := ⟨RL, "areVersionsSo", "(LSchemaSubjects;II)Z"⟩
abbrev cL_isReadSo : ByteArray := method_10_code
def yL_isReadSo : MethodName := ⟨RL, "isReadSo", "(LSchemaSubjects;LSchemaSubjects;III)Z"⟩
abbrev cL_law : ByteArray := code
def yL_law : MethodName := ⟨RL, "law", "([I)Z"⟩
abbrev vwCl : List vw_C := [(RJx4a65c, TJx4a65c, 3), (RX0, TX0, 9), (RX1, TX1, 2), (RX2, TX2, 3), (RX3, TX3, 3), (RX4, TX4, 2), (RX5, TX5, 6)]
