/-! ===== small rows for the generated walks; certificates out of the tables ===== -/
theorem z_catR {r : Option Nat} : (va_rf r).category = 1 := by cases r <;> rfl
theorem z_catI {x : Int32} : (Value.int x).category = 1 := rfl
theorem z_catF {x : Nat} : (Value.ref x).category = 1 := rfl
theorem z_catN : Value.null.category = 1 := rfl
theorem z_fz {x : Int32} (h : x = 0 ∨ x = 1) : fits .boolean (.int x) = true := by rcases h with rfl | rfl <;> rfl
theorem z_no {n : String} (r : Option Nat) : narrow (.object n) (va_rf r) = va_rf r := by cases r <;> rfl
theorem z_na {t : FieldType} (r : Option Nat) : narrow (.array t) (va_rf r) = va_rf r := by cases r <;> rfl
theorem z_fo {n : String} (r : Option Nat) : fits (.object n) (va_rf r) = true := by cases r <;> rfl
theorem z_fa {t : FieldType} (r : Option Nat) : fits (.array t) (va_rf r) = true := by cases r <;> rfl
theorem z_enter {m : MethodId} {n : Nat} {vs : List Value} {l : List (Nat × Value)} (h1 : (lg_sl vs).length ≤ n) (h2 : lv_args 0 vs = l) : ∃ ls, entryFrame m vs.toArray n = F0 m 0 ls [] ∧ lv_has ls n l :=
  ⟨_, lg_entry_eq m vs n, by rw [← h2]; exact lv_entry vs h1⟩
theorem z_in {ws : List Cond} (ps : List Nat) (hp : ws = ps.filterMap (fun i => lw_tbl[i]?)) (h : ws.all zgood = true) : ∀ w ∈ ws, w ∈ zG := by
  intro w hw
  have h1 := List.all_eq_true.mp h w hw
  rw [hp] at hw
  obtain ⟨i, -, hi⟩ := List.mem_filterMap.mp hw
  exact z_g i hi h1

theorem zin_0 : ∀ w ∈ u_ws RJx4a65c TJx4a65c 3, w ∈ zG := z_in [95, 91, 93] (by decide +kernel) (by decide +kernel)
theorem vc_0 : vwCl[0]? = some (RJx4a65c, TJx4a65c, 3) := rfl
theorem zd_0 : ∀ j, j < 3 → defaultValue (tyJx4a65c j) = vp_V [.int 0, .null, .int 0] j := by decide +kernel
theorem zin_1 : ∀ w ∈ u_ws RX0 TX0 9, w ∈ zG := z_in [444, 446, 448, 450, 452, 454, 456, 458, 460] (by decide +kernel) (by decide +kernel)
theorem vc_1 : vwCl[1]? = some (RX0, TX0, 9) := rfl
theorem zd_1 : ∀ j, j < 9 → defaultValue (tyX0 j) = vp_V [.int 0, .int 0, .int 0, .int 0, .int 0, .null, .int 0, .int 0, .int 0] j := by decide +kernel
theorem zin_2 : ∀ w ∈ u_ws RX1 TX1 2, w ∈ zG := z_in [193, 195] (by decide +kernel) (by decide +kernel)
theorem vc_2 : vwCl[2]? = some (RX1, TX1, 2) := rfl
theorem zd_2 : ∀ j, j < 2 → defaultValue (tyX1 j) = vp_V [.null, .int 0] j := by decide +kernel
theorem zin_3 : ∀ w ∈ u_ws RX2 TX2 3, w ∈ zG := z_in [205, 207, 209] (by decide +kernel) (by decide +kernel)
theorem vc_3 : vwCl[3]? = some (RX2, TX2, 3) := rfl
theorem zd_3 : ∀ j, j < 3 → defaultValue (tyX2 j) = vp_V [.null, .null, .int 0] j := by decide +kernel
theorem zin_4 : ∀ w ∈ u_ws RX3 TX3 3, w ∈ zG := z_in [112, 114, 116] (by decide +kernel) (by decide +kernel)
theorem vc_4 : vwCl[4]? = some (RX3, TX3, 3) := rfl
theorem zd_4 : ∀ j, j < 3 → defaultValue (tyX3 j) = vp_V [.null, .int 0, .int 0] j := by decide +kernel
theorem zin_5 : ∀ w ∈ u_ws RX4 TX4 2, w ∈ zG := z_in [582, 584] (by decide +kernel) (by decide +kernel)
theorem vc_5 : vwCl[5]? = some (RX4, TX4, 2) := rfl
theorem zd_5 : ∀ j, j < 2 → defaultValue (tyX4 j) = vp_V [.null, .int 0] j := by decide +kernel
theorem zin_6 : ∀ w ∈ u_ws RX5 TX5 6, w ∈ zG := z_in [220, 222, 224, 226, 228, 230] (by decide +kernel) (by decide +kernel)
theorem vc_6 : vwCl[6]? = some (RX5, TX5, 6) := rfl
theorem zd_6 : ∀ j, j < 6 → defaultValue (tyX5 j) = vp_V [.null, .null, .null, .null, .null, .null] j := by decide +kernel
theorem zin_7 : ∀ w ∈ u_ws RX6 TX6 23, w ∈ zG := z_in [757, 759, 761, 763, 765, 767, 769, 771, 773, 775, 777, 779, 781, 783, 785, 787, 789, 791, 793, 795, 797, 799, 801] (by decide +kernel) (by decide +kernel)
theorem vc_7 : vwCl[7]? = some (RX6, TX6, 23) := rfl
theorem zd_7 : ∀ j, j < 23 → defaultValue (tyX6 j) = vp_V [.int 0, .null, .null, .null, .null, .null, .null, .null, .null, .int 0, .null, .null, .null, .null, .null, .null, .int 0, .null, .null, .null, .null, .null, .null] j := by decide +kernel
theorem zw0 : Cond.selects "java/util/ArrayList" ({ cls := "java/util/ArrayList", name := "add", desc := "(Ljava/lang/Object;[Ljava/lang/Object;I)V" }) ({ cls := "java/util/ArrayList", name := "add", desc := "(Ljava/lang/Object;[Ljava/lang/Object;I)V" }) ∈ zG := z_g 0 (by decide +kernel) (by decide +kernel)
theorem zw1 : Cond.selects "java/util/ArrayList" ({ cls := "java/util/ArrayList", name := "grow", desc := "()[Ljava/lang/Object;" }) ({ cls := "java/util/ArrayList", name := "grow", desc := "()[Ljava/lang/Object;" }) ∈ zG := z_g 1 (by decide +kernel) (by decide +kernel)
theorem zw2 : Cond.selects "java/util/ArrayList" ({ cls := "java/util/ArrayList", name := "grow", desc := "(I)[Ljava/lang/Object;" }) ({ cls := "java/util/ArrayList", name := "grow", desc := "(I)[Ljava/lang/Object;" }) ∈ zG := z_g 2 (by decide +kernel) (by decide +kernel)
theorem zw4 : Cond.selects "SchemaSubjects" ({ cls := "SchemaSubjects", name := "referable", desc := "(I)LSchemaSubjects$Schema;" }) ({ cls := "SchemaSubjects", name := "referable", desc := "(I)LSchemaSubjects$Schema;" }) ∈ zG := z_g 4 (by decide +kernel) (by decide +kernel)
theorem zw5 : Cond.selects "SchemaSubjects" ({ cls := "SchemaSubjects", name := "demandedSubject", desc := "(I)LSchemaSubjects$Subject;" }) ({ cls := "SchemaSubjects", name := "demandedSubject", desc := "(I)LSchemaSubjects$Subject;" }) ∈ zG := z_g 5 (by decide +kernel) (by decide +kernel)
theorem zw6 : Cond.selects "SchemaSubjects" ({ cls := "SchemaSubjects", name := "demandDraft", desc := "()V" }) ({ cls := "SchemaSubjects", name := "demandDraft", desc := "()V" }) ∈ zG := z_g 6 (by decide +kernel) (by decide +kernel)
theorem zw7 : Cond.selects "SchemaSubjects$Subject" ({ cls := "SchemaSubjects$Subject", name := "agrees", desc := "(LSchemaSubjects$Schema;LSchemaSubjects$Schema;)Z" }) ({ cls := "SchemaSubjects$Subject", name := "agrees", desc := "(LSchemaSubjects$Schema;LSchemaSubjects$Schema;)Z" }) ∈ zG := z_g 7 (by decide +kernel) (by decide +kernel)
theorem zw8 : Cond.selects "SchemaSubjects" ({ cls := "SchemaSubjects", name := "takeDraft", desc := "()LSchemaSubjects$Schema;" }) ({ cls := "SchemaSubjects", name := "takeDraft", desc := "()LSchemaSubjects$Schema;" }) ∈ zG := z_g 8 (by decide +kernel) (by decide +kernel)
theorem zw9 : Cond.selects "SchemaSubjects" ({ cls := "SchemaSubjects", name := "isReferredTo", desc := "(I)Z" }) ({ cls := "SchemaSubjects", name := "isReferredTo", desc := "(I)Z" }) ∈ zG := z_g 9 (by decide +kernel) (by decide +kernel)
theorem zw10 : Cond.selects "SchemaSubjects" ({ cls := "SchemaSubjects", name := "demandedSchema", desc := "(II)LSchemaSubjects$Schema;" }) ({ cls := "SchemaSubjects", name := "demandedSchema", desc := "(II)LSchemaSubjects$Schema;" }) ∈ zG := z_g 10 (by decide +kernel) (by decide +kernel)
theorem zw11 : Cond.selects "SchemaSubjects" ({ cls := "SchemaSubjects", name := "demandSubjects", desc := "(II)V" }) ({ cls := "SchemaSubjects", name := "demandSubjects", desc := "(II)V" }) ∈ zG := z_g 11 (by decide +kernel) (by decide +kernel)
theorem zw12 : Cond.selects "SchemaSubjects" ({ cls := "SchemaSubjects", name := "isRecordOf", desc := "(LSchemaSubjects$Schema;)Z" }) ({ cls := "SchemaSubjects", name := "isRecordOf", desc := "(LSchemaSubjects$Schema;)Z" }) ∈ zG := z_g 12 (by decide +kernel) (by decide +kernel)
theorem zw13 : Cond.selects "SchemaSubjectsModel" ({ cls := "SchemaSubjectsModel", name := "errorOfField", desc := "(IIII)I" }) ({ cls := "SchemaSubjectsModel", name := "errorOfField", desc := "(IIII)I" }) ∈ zG := z_g 13 (by decide +kernel) (by decide +kernel)
theorem zw14 : Cond.selects "SchemaSubjectsModel" ({ cls := "SchemaSubjectsModel", name := "isRange", desc := "(IIII)Z" }) ({ cls := "SchemaSubjectsModel", name := "isRange", desc := "(IIII)Z" }) ∈ zG := z_g 14 (by decide +kernel) (by decide +kernel)
theorem zw15 : Cond.selects "SchemaSubjectsModel" ({ cls := "SchemaSubjectsModel", name := "isThereAt", desc := "(II)Z" }) ({ cls := "SchemaSubjectsModel", name := "isThereAt", desc := "(II)Z" }) ∈ zG := z_g 15 (by decide +kernel) (by decide +kernel)
theorem zw16 : Cond.selects "SchemaSubjectsModel" ({ cls := "SchemaSubjectsModel", name := "isVersion", desc := "(II)Z" }) ({ cls := "SchemaSubjectsModel", name := "isVersion", desc := "(II)Z" }) ∈ zG := z_g 16 (by decide +kernel) (by decide +kernel)
theorem zw17 : Cond.selects "SchemaSubjectsModel" ({ cls := "SchemaSubjectsModel", name := "schemaOf", desc := "(I)I" }) ({ cls := "SchemaSubjectsModel", name := "schemaOf", desc := "(I)I" }) ∈ zG := z_g 17 (by decide +kernel) (by decide +kernel)
theorem zw18 : Cond.selects "SchemaSubjectsModel" ({ cls := "SchemaSubjectsModel", name := "named", desc := "(II)I" }) ({ cls := "SchemaSubjectsModel", name := "named", desc := "(II)I" }) ∈ zG := z_g 18 (by decide +kernel) (by decide +kernel)
theorem zw19 : Cond.selects "SchemaSubjectsModel" ({ cls := "SchemaSubjectsModel", name := "holds", desc := "(I)Z" }) ({ cls := "SchemaSubjectsModel", name := "holds", desc := "(I)Z" }) ∈ zG := z_g 19 (by decide +kernel) (by decide +kernel)
theorem zw20 : Cond.selects "SchemaSubjectsModel" ({ cls := "SchemaSubjectsModel", name := "isValue", desc := "(II)Z" }) ({ cls := "SchemaSubjectsModel", name := "isValue", desc := "(II)Z" }) ∈ zG := z_g 20 (by decide +kernel) (by decide +kernel)
theorem zw21 : Cond.selects "SchemaSubjectsModel" ({ cls := "SchemaSubjectsModel", name := "empties", desc := "()V" }) ({ cls := "SchemaSubjectsModel", name := "empties", desc := "()V" }) ∈ zG := z_g 21 (by decide +kernel) (by decide +kernel)
theorem zw22 : Cond.selects "SchemaSubjectsModel" ({ cls := "SchemaSubjectsModel", name := "isAcceptedBy", desc := "(I)Z" }) ({ cls := "SchemaSubjectsModel", name := "isAcceptedBy", desc := "(I)Z" }) ∈ zG := z_g 22 (by decide +kernel) (by decide +kernel)
theorem zw23 : Cond.selects "SchemaSubjectsModel" ({ cls := "SchemaSubjectsModel", name := "tells", desc := "()V" }) ({ cls := "SchemaSubjectsModel", name := "tells", desc := "()V" }) ∈ zG := z_g 23 (by decide +kernel) (by decide +kernel)
theorem zw24 : Cond.selects "SchemaSubjectsModel" ({ cls := "SchemaSubjectsModel", name := "canReadNow", desc := "(II)Z" }) ({ cls := "SchemaSubjectsModel", name := "canReadNow", desc := "(II)Z" }) ∈ zG := z_g 24 (by decide +kernel) (by decide +kernel)
theorem zw25 : Cond.selects "SchemaSubjectsModel" ({ cls := "SchemaSubjectsModel", name := "source", desc := "(II)I" }) ({ cls := "SchemaSubjectsModel", name := "source", desc := "(II)I" }) ∈ zG := z_g 25 (by decide +kernel) (by decide +kernel)
theorem zw26 : Cond.selects "SchemaSubjectsModel" ({ cls := "SchemaSubjectsModel", name := "isRead", desc := "(II)Z" }) ({ cls := "SchemaSubjectsModel", name := "isRead", desc := "(II)Z" }) ∈ zG := z_g 26 (by decide +kernel) (by decide +kernel)
theorem zw27 : Cond.selects "SchemaSubjectsModel" ({ cls := "SchemaSubjectsModel", name := "errorOfRegister", desc := "(I)I" }) ({ cls := "SchemaSubjectsModel", name := "errorOfRegister", desc := "(I)I" }) ∈ zG := z_g 27 (by decide +kernel) (by decide +kernel)
theorem zw28 : Cond.selects "SchemaSubjectsModel" ({ cls := "SchemaSubjectsModel", name := "likeVersion", desc := "(I)I" }) ({ cls := "SchemaSubjectsModel", name := "likeVersion", desc := "(I)I" }) ∈ zG := z_g 28 (by decide +kernel) (by decide +kernel)
theorem zw29 : Cond.selects "SchemaSubjectsModel" ({ cls := "SchemaSubjectsModel", name := "isLike", desc := "(I)Z" }) ({ cls := "SchemaSubjectsModel", name := "isLike", desc := "(I)Z" }) ∈ zG := z_g 29 (by decide +kernel) (by decide +kernel)
theorem zw30 : Cond.selects "SchemaSubjectsModel" ({ cls := "SchemaSubjectsModel", name := "numbered", desc := "()I" }) ({ cls := "SchemaSubjectsModel", name := "numbered", desc := "()I" }) ∈ zG := z_g 30 (by decide +kernel) (by decide +kernel)
theorem zw31 : Cond.selects "SchemaSubjectsModel" ({ cls := "SchemaSubjectsModel", name := "errorOfDelete", desc := "(IIZ)I" }) ({ cls := "SchemaSubjectsModel", name := "errorOfDelete", desc := "(IIZ)I" }) ∈ zG := z_g 31 (by decide +kernel) (by decide +kernel)
theorem zw32 : Cond.selects "SchemaSubjectsModel" ({ cls := "SchemaSubjectsModel", name := "isReferred", desc := "(I)Z" }) ({ cls := "SchemaSubjectsModel", name := "isReferred", desc := "(I)Z" }) ∈ zG := z_g 32 (by decide +kernel) (by decide +kernel)
theorem zw33 : Cond.selects "SchemaSubjectsModel" ({ cls := "SchemaSubjectsModel", name := "refers", desc := "(II)Z" }) ({ cls := "SchemaSubjectsModel", name := "refers", desc := "(II)Z" }) ∈ zG := z_g 33 (by decide +kernel) (by decide +kernel)
theorem zw34 : Cond.selects "SchemaSubjectsModel" ({ cls := "SchemaSubjectsModel", name := "isAsked", desc := "(II)Z" }) ({ cls := "SchemaSubjectsModel", name := "isAsked", desc := "(II)Z" }) ∈ zG := z_g 34 (by decide +kernel) (by decide +kernel)
theorem zw35 : Cond.selects "SchemaSubjectsModel" ({ cls := "SchemaSubjectsModel", name := "errorOfBoth", desc := "(IIII)I" }) ({ cls := "SchemaSubjectsModel", name := "errorOfBoth", desc := "(IIII)I" }) ∈ zG := z_g 35 (by decide +kernel) (by decide +kernel)
theorem zw36 : Cond.selects "SchemaSubjectsModel" ({ cls := "SchemaSubjectsModel", name := "canOf", desc := "(IIII)Z" }) ({ cls := "SchemaSubjectsModel", name := "canOf", desc := "(IIII)Z" }) ∈ zG := z_g 36 (by decide +kernel) (by decide +kernel)
theorem zw37 : Cond.selects "SchemaSubjectsModel" ({ cls := "SchemaSubjectsModel", name := "small", desc := "(I)I" }) ({ cls := "SchemaSubjectsModel", name := "small", desc := "(I)I" }) ∈ zG := z_g 37 (by decide +kernel) (by decide +kernel)
theorem zw38 : Cond.selects "SchemaSubjectsModel" ({ cls := "SchemaSubjectsModel", name := "isRecordOf", desc := "(I)Z" }) ({ cls := "SchemaSubjectsModel", name := "isRecordOf", desc := "(I)Z" }) ∈ zG := z_g 38 (by decide +kernel) (by decide +kernel)
theorem zw39 : Cond.selects "SchemaSubjectsModel" ({ cls := "SchemaSubjectsModel", name := "reads", desc := "(II)I" }) ({ cls := "SchemaSubjectsModel", name := "reads", desc := "(II)I" }) ∈ zG := z_g 39 (by decide +kernel) (by decide +kernel)
theorem zw40 : Cond.selects "SchemaSubjectsModel" ({ cls := "SchemaSubjectsModel", name := "ahead", desc := "(II)I" }) ({ cls := "SchemaSubjectsModel", name := "ahead", desc := "(II)I" }) ∈ zG := z_g 40 (by decide +kernel) (by decide +kernel)
theorem zw42 : (Jvm.Cond.initialized "SchemaSubjects") ∈ zG := z_g 42 (by decide +kernel) (by decide +kernel)
theorem zw43 : (Jvm.Cond.initialized "java/util/AbstractCollection") ∈ zG := z_g 43 (by decide +kernel) (by decide +kernel)
theorem zw44 : (Jvm.Cond.initialized "java/util/AbstractList") ∈ zG := z_g 44 (by decide +kernel) (by decide +kernel)
theorem zw45 : (Jvm.Cond.initialized "java/util/ArrayList") ∈ zG := z_g 45 (by decide +kernel) (by decide +kernel)
theorem zw46 : (Jvm.Cond.initialized "SchemaSubjects$Subject") ∈ zG := z_g 46 (by decide +kernel) (by decide +kernel)
theorem zw47 : (Jvm.Cond.initialized "jdk/internal/util/ArraysSupport") ∈ zG := z_g 47 (by decide +kernel) (by decide +kernel)
theorem zw48 : (Jvm.Cond.initialized "java/lang/Math") ∈ zG := z_g 48 (by decide +kernel) (by decide +kernel)
theorem zw49 : (Jvm.Cond.initialized "java/util/Arrays") ∈ zG := z_g 49 (by decide +kernel) (by decide +kernel)
theorem zw50 : (Jvm.Cond.initialized "java/lang/System") ∈ zG := z_g 50 (by decide +kernel) (by decide +kernel)
theorem zw51 : (Jvm.Cond.initialized "SchemaSubjects$Schema") ∈ zG := z_g 51 (by decide +kernel) (by decide +kernel)
theorem zw52 : (Jvm.Cond.initialized "SchemaSubjects$Row") ∈ zG := z_g 52 (by decide +kernel) (by decide +kernel)
theorem zw53 : (Jvm.Cond.initialized "SchemaSubjectsModel") ∈ zG := z_g 53 (by decide +kernel) (by decide +kernel)
theorem zw57 : (Jvm.Cond.initialized "java/lang/IllegalArgumentException") ∈ zG := z_g 57 (by decide +kernel) (by decide +kernel)
theorem zw58 : (Jvm.Cond.initialized "java/util/Objects") ∈ zG := z_g 58 (by decide +kernel) (by decide +kernel)
theorem zw59 : (Jvm.Cond.initialized "jdk/internal/util/Preconditions") ∈ zG := z_g 59 (by decide +kernel) (by decide +kernel)
theorem zw60 : (Jvm.Cond.initialized "java/lang/IndexOutOfBoundsException") ∈ zG := z_g 60 (by decide +kernel) (by decide +kernel)
theorem zw61 : (Jvm.Cond.initialized "java/lang/IllegalStateException") ∈ zG := z_g 61 (by decide +kernel) (by decide +kernel)
theorem zw62 : (Jvm.Cond.initialized "SchemaSubjects$Field") ∈ zG := z_g 62 (by decide +kernel) (by decide +kernel)
theorem zw63 : (Jvm.Cond.initialized "SchemaSubjects$Version") ∈ zG := z_g 63 (by decide +kernel) (by decide +kernel)
theorem zw69 : (Jvm.Cond.methodLink "SchemaSubjects" (1 : Nat) ({ cls := "java/lang/Object", name := "<init>", desc := "()V" } : Jvm.MethodName)) ∈ zG := z_g 69 (by decide +kernel) (by decide +kernel)
theorem zw70 : (Jvm.Cond.instanceMethod ({ cls := "java/lang/Object", name := "<init>", desc := "()V" } : Jvm.MethodName)) ∈ zG := z_g 70 (by decide +kernel) (by decide +kernel)
theorem zw71 : (Jvm.Cond.code ({ cls := "java/lang/Object", name := "<init>", desc := "()V" } : Jvm.MethodName) object_method_1_code (1 : Nat) (Option.none : Option Jvm.ClassFile.FieldType)) ∈ zG := z_g 71 (by decide +kernel) (by decide +kernel)
theorem zw72 : (Jvm.Cond.classLink "SchemaSubjects" (7 : Nat) "java/util/ArrayList") ∈ zG := z_g 72 (by decide +kernel) (by decide +kernel)
theorem zw73 : (Jvm.Cond.instantiable "java/util/ArrayList" (3 : Nat)) ∈ zG := z_g 73 (by decide +kernel) (by decide +kernel)
theorem zw74 : (Jvm.Cond.methodLink "SchemaSubjects" (9 : Nat) ({ cls := "java/util/ArrayList", name := "<init>", desc := "()V" } : Jvm.MethodName)) ∈ zG := z_g 74 (by decide +kernel) (by decide +kernel)
theorem zw75 : (Jvm.Cond.instanceMethod ({ cls := "java/util/ArrayList", name := "<init>", desc := "()V" } : Jvm.MethodName)) ∈ zG := z_g 75 (by decide +kernel) (by decide +kernel)
theorem zw76 : (Jvm.Cond.code ({ cls := "java/util/ArrayList", name := "<init>", desc := "()V" } : Jvm.MethodName) prog_23_method_2_code (1 : Nat) (Option.none : Option Jvm.ClassFile.FieldType)) ∈ zG := z_g 76 (by decide +kernel) (by decide +kernel)
theorem zw77 : (Jvm.Cond.methodLink "java/util/ArrayList" (1 : Nat) ({ cls := "java/util/AbstractList", name := "<init>", desc := "()V" } : Jvm.MethodName)) ∈ zG := z_g 77 (by decide +kernel) (by decide +kernel)
theorem zw78 : (Jvm.Cond.instanceMethod ({ cls := "java/util/AbstractList", name := "<init>", desc := "()V" } : Jvm.MethodName)) ∈ zG := z_g 78 (by decide +kernel) (by decide +kernel)
theorem zw79 : (Jvm.Cond.code ({ cls := "java/util/AbstractList", name := "<init>", desc := "()V" } : Jvm.MethodName) prog_22_method_1_code (1 : Nat) (Option.none : Option Jvm.ClassFile.FieldType)) ∈ zG := z_g 79 (by decide +kernel) (by decide +kernel)
theorem zw80 : (Jvm.Cond.methodLink "java/util/AbstractList" (1 : Nat) ({ cls := "java/util/AbstractCollection", name := "<init>", desc := "()V" } : Jvm.MethodName)) ∈ zG := z_g 80 (by decide +kernel) (by decide +kernel)
theorem zw81 : (Jvm.Cond.instanceMethod ({ cls := "java/util/AbstractCollection", name := "<init>", desc := "()V" } : Jvm.MethodName)) ∈ zG := z_g 81 (by decide +kernel) (by decide +kernel)
theorem zw82 : (Jvm.Cond.code ({ cls := "java/util/AbstractCollection", name := "<init>", desc := "()V" } : Jvm.MethodName) prog_21_method_1_code (1 : Nat) (Option.none : Option Jvm.ClassFile.FieldType)) ∈ zG := z_g 82 (by decide +kernel) (by decide +kernel)
theorem zw83 : (Jvm.Cond.methodLink "java/util/AbstractCollection" (1 : Nat) ({ cls := "java/lang/Object", name := "<init>", desc := "()V" } : Jvm.MethodName)) ∈ zG := z_g 83 (by decide +kernel) (by decide +kernel)
theorem zw84 : (Jvm.Cond.fieldLink "java/util/ArrayList" (39 : Nat) "java/util/ArrayList" "DEFAULTCAPACITY_EMPTY_ELEMENTDATA" "[Ljava/lang/Object;") ∈ zG := z_g 84 (by decide +kernel) (by decide +kernel)
theorem zw86 : (Jvm.Cond.fieldLink "java/util/ArrayList" (9 : Nat) "java/util/ArrayList" "elementData" "[Ljava/lang/Object;") ∈ zG := z_g 86 (by decide +kernel) (by decide +kernel)
theorem zw87 : (Jvm.Cond.fieldLink "java/util/ArrayList" (48 : Nat) "java/util/ArrayList" "size" "I") ∈ zG := z_g 87 (by decide +kernel) (by decide +kernel)
theorem zw88 : (Jvm.Cond.fieldLink "java/util/AbstractList" (7 : Nat) "java/util/AbstractList" "modCount" "I") ∈ zG := z_g 88 (by decide +kernel) (by decide +kernel)
theorem zw89 : (Jvm.Cond.fieldLink "java/util/ArrayList" (63 : Nat) "java/util/ArrayList" "modCount" "I") ∈ zG := z_g 89 (by decide +kernel) (by decide +kernel)
theorem zw90 : (Jvm.Cond.sameField "java/util/ArrayList" "java/util/AbstractList" "modCount" "I") ∈ zG := z_g 90 (by decide +kernel) (by decide +kernel)
theorem zw98 : (Jvm.Cond.classLink "SchemaSubjects" (16 : Nat) "SchemaSubjects$Subject") ∈ zG := z_g 98 (by decide +kernel) (by decide +kernel)
theorem zw99 : (Jvm.Cond.instantiable "SchemaSubjects$Subject" (3 : Nat)) ∈ zG := z_g 99 (by decide +kernel) (by decide +kernel)
theorem zw100 : (Jvm.Cond.methodLink "SchemaSubjects" (18 : Nat) ({ cls := "SchemaSubjects$Subject", name := "<init>", desc := "()V" } : Jvm.MethodName)) ∈ zG := z_g 100 (by decide +kernel) (by decide +kernel)
theorem zw101 : (Jvm.Cond.instanceMethod ({ cls := "SchemaSubjects$Subject", name := "<init>", desc := "()V" } : Jvm.MethodName)) ∈ zG := z_g 101 (by decide +kernel) (by decide +kernel)
theorem zw102 : (Jvm.Cond.code ({ cls := "SchemaSubjects$Subject", name := "<init>", desc := "()V" } : Jvm.MethodName) prog_5_method_1_code (1 : Nat) (Option.none : Option Jvm.ClassFile.FieldType)) ∈ zG := z_g 102 (by decide +kernel) (by decide +kernel)
theorem zw103 : (Jvm.Cond.methodLink "SchemaSubjects$Subject" (3 : Nat) ({ cls := "java/lang/Object", name := "<init>", desc := "()V" } : Jvm.MethodName)) ∈ zG := z_g 103 (by decide +kernel) (by decide +kernel)
theorem zw104 : (Jvm.Cond.classLink "SchemaSubjects$Subject" (9 : Nat) "java/util/ArrayList") ∈ zG := z_g 104 (by decide +kernel) (by decide +kernel)
theorem zw105 : (Jvm.Cond.methodLink "SchemaSubjects$Subject" (11 : Nat) ({ cls := "java/util/ArrayList", name := "<init>", desc := "()V" } : Jvm.MethodName)) ∈ zG := z_g 105 (by decide +kernel) (by decide +kernel)
theorem zw106 : (Jvm.Cond.fieldLink "SchemaSubjects$Subject" (12 : Nat) "SchemaSubjects$Subject" "history" "Ljava/util/ArrayList;") ∈ zG := z_g 106 (by decide +kernel) (by decide +kernel)
theorem zw107 : (Jvm.Cond.fieldLink "SchemaSubjects" (155 : Nat) "SchemaSubjects$Subject" "history" "Ljava/util/ArrayList;") ∈ zG := z_g 107 (by decide +kernel) (by decide +kernel)
theorem zw108 : (Jvm.Cond.fieldLink "SchemaSubjects$Subject" (54 : Nat) "SchemaSubjects$Subject" "mode" "I") ∈ zG := z_g 108 (by decide +kernel) (by decide +kernel)
theorem zw109 : (Jvm.Cond.fieldLink "SchemaSubjects" (171 : Nat) "SchemaSubjects$Subject" "mode" "I") ∈ zG := z_g 109 (by decide +kernel) (by decide +kernel)
theorem zw110 : (Jvm.Cond.fieldLink "SchemaSubjects$Subject" (50 : Nat) "SchemaSubjects$Subject" "asksForAll" "Z") ∈ zG := z_g 110 (by decide +kernel) (by decide +kernel)
theorem zw111 : (Jvm.Cond.fieldLink "SchemaSubjects" (174 : Nat) "SchemaSubjects$Subject" "asksForAll" "Z") ∈ zG := z_g 111 (by decide +kernel) (by decide +kernel)
theorem zw119 : (Jvm.Cond.methodLink "SchemaSubjects" (19 : Nat) ({ cls := "java/util/ArrayList", name := "add", desc := "(Ljava/lang/Object;)Z" } : Jvm.MethodName)) ∈ zG := z_g 119 (by decide +kernel) (by decide +kernel)
theorem zw120 : (Jvm.Cond.instanceMethod ({ cls := "java/util/ArrayList", name := "add", desc := "(Ljava/lang/Object;)Z" } : Jvm.MethodName)) ∈ zG := z_g 120 (by decide +kernel) (by decide +kernel)
theorem zw121 : (Jvm.Cond.selects "java/util/ArrayList" ({ cls := "java/util/ArrayList", name := "add", desc := "(Ljava/lang/Object;)Z" } : Jvm.MethodName) ({ cls := "java/util/ArrayList", name := "add", desc := "(Ljava/lang/Object;)Z" } : Jvm.MethodName)) ∈ zG := z_g 121 (by decide +kernel) (by decide +kernel)
theorem zw122 : (Jvm.Cond.code ({ cls := "java/util/ArrayList", name := "add", desc := "(Ljava/lang/Object;)Z" } : Jvm.MethodName) prog_23_method_25_code (2 : Nat) (Option.some Jvm.ClassFile.FieldType.boolean)) ∈ zG := z_g 122 (by decide +kernel) (by decide +kernel)
theorem zw123 : (Jvm.Cond.methodLink "java/util/ArrayList" (131 : Nat) ({ cls := "java/util/ArrayList", name := "add", desc := "(Ljava/lang/Object;[Ljava/lang/Object;I)V" } : Jvm.MethodName)) ∈ zG := z_g 123 (by decide +kernel) (by decide +kernel)
theorem zw125 : (Jvm.Cond.instanceMethod ({ cls := "java/util/ArrayList", name := "add", desc := "(Ljava/lang/Object;[Ljava/lang/Object;I)V" } : Jvm.MethodName)) ∈ zG := z_g 125 (by decide +kernel) (by decide +kernel)
theorem zw126 : (Jvm.Cond.code ({ cls := "java/util/ArrayList", name := "add", desc := "(Ljava/lang/Object;[Ljava/lang/Object;I)V" } : Jvm.MethodName) prog_23_method_24_code (4 : Nat) (Option.none : Option Jvm.ClassFile.FieldType)) ∈ zG := z_g 126 (by decide +kernel) (by decide +kernel)
theorem zw127 : (Jvm.Cond.methodLink "java/util/ArrayList" (129 : Nat) ({ cls := "java/util/ArrayList", name := "grow", desc := "()[Ljava/lang/Object;" } : Jvm.MethodName)) ∈ zG := z_g 127 (by decide +kernel) (by decide +kernel)
theorem zw129 : (Jvm.Cond.instanceMethod ({ cls := "java/util/ArrayList", name := "grow", desc := "()[Ljava/lang/Object;" } : Jvm.MethodName)) ∈ zG := z_g 129 (by decide +kernel) (by decide +kernel)
theorem zw130 : (Jvm.Cond.code ({ cls := "java/util/ArrayList", name := "grow", desc := "()[Ljava/lang/Object;" } : Jvm.MethodName) prog_23_method_7_code (1 : Nat) (Option.some (Jvm.ClassFile.FieldType.array (Jvm.ClassFile.FieldType.object "java/lang/Object")))) ∈ zG := z_g 130 (by decide +kernel) (by decide +kernel)
theorem zw131 : (Jvm.Cond.methodLink "java/util/ArrayList" (69 : Nat) ({ cls := "java/util/ArrayList", name := "grow", desc := "(I)[Ljava/lang/Object;" } : Jvm.MethodName)) ∈ zG := z_g 131 (by decide +kernel) (by decide +kernel)
theorem zw133 : (Jvm.Cond.instanceMethod ({ cls := "java/util/ArrayList", name := "grow", desc := "(I)[Ljava/lang/Object;" } : Jvm.MethodName)) ∈ zG := z_g 133 (by decide +kernel) (by decide +kernel)
theorem zw134 : (Jvm.Cond.code ({ cls := "java/util/ArrayList", name := "grow", desc := "(I)[Ljava/lang/Object;" } : Jvm.MethodName) prog_23_method_6_code (4 : Nat) (Option.some (Jvm.ClassFile.FieldType.array (Jvm.ClassFile.FieldType.object "java/lang/Object")))) ∈ zG := z_g 134 (by decide +kernel) (by decide +kernel)
theorem zw135 : (Jvm.Cond.methodLink "java/util/ArrayList" (73 : Nat) ({ cls := "jdk/internal/util/ArraysSupport", name := "newLength", desc := "(III)I" } : Jvm.MethodName)) ∈ zG := z_g 135 (by decide +kernel) (by decide +kernel)
theorem zw136 : (Jvm.Cond.static ({ cls := "jdk/internal/util/ArraysSupport", name := "newLength", desc := "(III)I" } : Jvm.MethodName)) ∈ zG := z_g 136 (by decide +kernel) (by decide +kernel)
theorem zw137 : (Jvm.Cond.code ({ cls := "jdk/internal/util/ArraysSupport", name := "newLength", desc := "(III)I" } : Jvm.MethodName) prog_30_method_27_code (4 : Nat) (Option.some Jvm.ClassFile.FieldType.int)) ∈ zG := z_g 137 (by decide +kernel) (by decide +kernel)
theorem zw138 : (Jvm.Cond.methodLink "jdk/internal/util/ArraysSupport" (194 : Nat) ({ cls := "java/lang/Math", name := "max", desc := "(II)I" } : Jvm.MethodName)) ∈ zG := z_g 138 (by decide +kernel) (by decide +kernel)
theorem zw139 : (Jvm.Cond.static ({ cls := "java/lang/Math", name := "max", desc := "(II)I" } : Jvm.MethodName)) ∈ zG := z_g 139 (by decide +kernel) (by decide +kernel)
theorem zw140 : (Jvm.Cond.code ({ cls := "java/lang/Math", name := "max", desc := "(II)I" } : Jvm.MethodName) prog_16_method_65_code (2 : Nat) (Option.some Jvm.ClassFile.FieldType.int)) ∈ zG := z_g 140 (by decide +kernel) (by decide +kernel)
theorem zw141 : (Jvm.Cond.constant "jdk/internal/util/ArraysSupport" (200 : Nat) (2147483639 : Int32)) ∈ zG := z_g 141 (by decide +kernel) (by decide +kernel)
theorem zw145 : (Jvm.Cond.methodLink "java/util/ArrayList" (66 : Nat) ({ cls := "java/util/Arrays", name := "copyOf", desc := "([Ljava/lang/Object;I)[Ljava/lang/Object;" } : Jvm.MethodName)) ∈ zG := z_g 145 (by decide +kernel) (by decide +kernel)
theorem zw146 : (Jvm.Cond.static ({ cls := "java/util/Arrays", name := "copyOf", desc := "([Ljava/lang/Object;I)[Ljava/lang/Object;" } : Jvm.MethodName)) ∈ zG := z_g 146 (by decide +kernel) (by decide +kernel)
theorem zw147 : (Jvm.Cond.code ({ cls := "java/util/Arrays", name := "copyOf", desc := "([Ljava/lang/Object;I)[Ljava/lang/Object;" } : Jvm.MethodName) prog_24_method_119_code (2 : Nat) (Option.some (Jvm.ClassFile.FieldType.array (Jvm.ClassFile.FieldType.object "java/lang/Object")))) ∈ zG := z_g 147 (by decide +kernel) (by decide +kernel)
theorem zw148 : (Jvm.Cond.methodLink "java/util/Arrays" (86 : Nat) ({ cls := "java/lang/Object", name := "getClass", desc := "()Ljava/lang/Class;" } : Jvm.MethodName)) ∈ zG := z_g 148 (by decide +kernel) (by decide +kernel)
theorem zw149 : (Jvm.Cond.instanceMethod ({ cls := "java/lang/Object", name := "getClass", desc := "()Ljava/lang/Class;" } : Jvm.MethodName)) ∈ zG := z_g 149 (by decide +kernel) (by decide +kernel)
theorem zw162 : (Jvm.Cond.native ({ cls := "java/lang/Object", name := "getClass", desc := "()Ljava/lang/Class;" } : Jvm.MethodName)) ∈ zG := z_g 162 (by decide +kernel) (by decide +kernel)
theorem zw163 : (Jvm.Cond.methodLink "java/util/Arrays" (300 : Nat) ({ cls := "java/util/Arrays", name := "copyOf", desc := "([Ljava/lang/Object;ILjava/lang/Class;)[Ljava/lang/Object;" } : Jvm.MethodName)) ∈ zG := z_g 163 (by decide +kernel) (by decide +kernel)
theorem zw164 : (Jvm.Cond.static ({ cls := "java/util/Arrays", name := "copyOf", desc := "([Ljava/lang/Object;ILjava/lang/Class;)[Ljava/lang/Object;" } : Jvm.MethodName)) ∈ zG := z_g 164 (by decide +kernel) (by decide +kernel)
theorem zw165 : (Jvm.Cond.code ({ cls := "java/util/Arrays", name := "copyOf", desc := "([Ljava/lang/Object;ILjava/lang/Class;)[Ljava/lang/Object;" } : Jvm.MethodName) prog_24_method_120_code (4 : Nat) (Option.some (Jvm.ClassFile.FieldType.array (Jvm.ClassFile.FieldType.object "java/lang/Object")))) ∈ zG := z_g 165 (by decide +kernel) (by decide +kernel)
theorem zw166 : (Jvm.Cond.classLink "java/util/Arrays" (110 : Nat) "[Ljava/lang/Object;") ∈ zG := z_g 166 (by decide +kernel) (by decide +kernel)
theorem zw168 : (Jvm.Cond.classLink "java/util/Arrays" (2 : Nat) "java/lang/Object") ∈ zG := z_g 168 (by decide +kernel) (by decide +kernel)
theorem zw169 : (Jvm.Cond.methodLink "java/util/Arrays" (304 : Nat) ({ cls := "java/lang/Math", name := "min", desc := "(II)I" } : Jvm.MethodName)) ∈ zG := z_g 169 (by decide +kernel) (by decide +kernel)
theorem zw170 : (Jvm.Cond.static ({ cls := "java/lang/Math", name := "min", desc := "(II)I" } : Jvm.MethodName)) ∈ zG := z_g 170 (by decide +kernel) (by decide +kernel)
theorem zw171 : (Jvm.Cond.code ({ cls := "java/lang/Math", name := "min", desc := "(II)I" } : Jvm.MethodName) prog_16_method_69_code (2 : Nat) (Option.some Jvm.ClassFile.FieldType.int)) ∈ zG := z_g 171 (by decide +kernel) (by decide +kernel)
theorem zw172 : (Jvm.Cond.methodLink "java/util/Arrays" (150 : Nat) ({ cls := "java/lang/System", name := "arraycopy", desc := "(Ljava/lang/Object;ILjava/lang/Object;II)V" } : Jvm.MethodName)) ∈ zG := z_g 172 (by decide +kernel) (by decide +kernel)
theorem zw173 : (Jvm.Cond.static ({ cls := "java/lang/System", name := "arraycopy", desc := "(Ljava/lang/Object;ILjava/lang/Object;II)V" } : Jvm.MethodName)) ∈ zG := z_g 173 (by decide +kernel) (by decide +kernel)
theorem zw174 : (Jvm.Cond.native ({ cls := "java/lang/System", name := "arraycopy", desc := "(Ljava/lang/Object;ILjava/lang/Object;II)V" } : Jvm.MethodName)) ∈ zG := z_g 174 (by decide +kernel) (by decide +kernel)
theorem zw175 : (Jvm.Cond.methodLink "java/util/ArrayList" (79 : Nat) ({ cls := "java/lang/Math", name := "max", desc := "(II)I" } : Jvm.MethodName)) ∈ zG := z_g 175 (by decide +kernel) (by decide +kernel)
theorem zw176 : (Jvm.Cond.classLink "java/util/ArrayList" (7 : Nat) "java/lang/Object") ∈ zG := z_g 176 (by decide +kernel) (by decide +kernel)
theorem zw177 : (Jvm.Cond.classLink "SchemaSubjects" (26 : Nat) "SchemaSubjects$Schema") ∈ zG := z_g 177 (by decide +kernel) (by decide +kernel)
theorem zw178 : (Jvm.Cond.instantiable "SchemaSubjects$Schema" (3 : Nat)) ∈ zG := z_g 178 (by decide +kernel) (by decide +kernel)
theorem zw179 : (Jvm.Cond.methodLink "SchemaSubjects" (28 : Nat) ({ cls := "SchemaSubjects$Schema", name := "<init>", desc := "()V" } : Jvm.MethodName)) ∈ zG := z_g 179 (by decide +kernel) (by decide +kernel)
theorem zw180 : (Jvm.Cond.instanceMethod ({ cls := "SchemaSubjects$Schema", name := "<init>", desc := "()V" } : Jvm.MethodName)) ∈ zG := z_g 180 (by decide +kernel) (by decide +kernel)
theorem zw181 : (Jvm.Cond.code ({ cls := "SchemaSubjects$Schema", name := "<init>", desc := "()V" } : Jvm.MethodName) prog_4_method_1_code (1 : Nat) (Option.none : Option Jvm.ClassFile.FieldType)) ∈ zG := z_g 181 (by decide +kernel) (by decide +kernel)
theorem zw182 : (Jvm.Cond.methodLink "SchemaSubjects$Schema" (3 : Nat) ({ cls := "java/lang/Object", name := "<init>", desc := "()V" } : Jvm.MethodName)) ∈ zG := z_g 182 (by decide +kernel) (by decide +kernel)
theorem zw183 : (Jvm.Cond.classLink "SchemaSubjects$Schema" (9 : Nat) "java/util/ArrayList") ∈ zG := z_g 183 (by decide +kernel) (by decide +kernel)
theorem zw184 : (Jvm.Cond.methodLink "SchemaSubjects$Schema" (11 : Nat) ({ cls := "java/util/ArrayList", name := "<init>", desc := "()V" } : Jvm.MethodName)) ∈ zG := z_g 184 (by decide +kernel) (by decide +kernel)
theorem zw185 : (Jvm.Cond.classLink "SchemaSubjects$Schema" (18 : Nat) "SchemaSubjects$Row") ∈ zG := z_g 185 (by decide +kernel) (by decide +kernel)
theorem zw186 : (Jvm.Cond.instantiable "SchemaSubjects$Row" (2 : Nat)) ∈ zG := z_g 186 (by decide +kernel) (by decide +kernel)
theorem zw187 : (Jvm.Cond.methodLink "SchemaSubjects$Schema" (20 : Nat) ({ cls := "SchemaSubjects$Row", name := "<init>", desc := "()V" } : Jvm.MethodName)) ∈ zG := z_g 187 (by decide +kernel) (by decide +kernel)
theorem zw188 : (Jvm.Cond.instanceMethod ({ cls := "SchemaSubjects$Row", name := "<init>", desc := "()V" } : Jvm.MethodName)) ∈ zG := z_g 188 (by decide +kernel) (by decide +kernel)
theorem zw189 : (Jvm.Cond.code ({ cls := "SchemaSubjects$Row", name := "<init>", desc := "()V" } : Jvm.MethodName) prog_3_method_1_code (1 : Nat) (Option.none : Option Jvm.ClassFile.FieldType)) ∈ zG := z_g 189 (by decide +kernel) (by decide +kernel)
theorem zw190 : (Jvm.Cond.methodLink "SchemaSubjects$Row" (3 : Nat) ({ cls := "java/lang/Object", name := "<init>", desc := "()V" } : Jvm.MethodName)) ∈ zG := z_g 190 (by decide +kernel) (by decide +kernel)
theorem zw191 : (Jvm.Cond.fieldLink "SchemaSubjects$Row" (9 : Nat) "SchemaSubjects$Row" "numbers" "[I") ∈ zG := z_g 191 (by decide +kernel) (by decide +kernel)
theorem zw192 : (Jvm.Cond.fieldLink "SchemaSubjects$Row" (15 : Nat) "SchemaSubjects$Row" "used" "I") ∈ zG := z_g 192 (by decide +kernel) (by decide +kernel)
theorem zw198 : (Jvm.Cond.arrayClass Jvm.ClassFile.FieldType.int) ∈ zG := z_g 198 (by decide +kernel) (by decide +kernel)
theorem zw199 : (Jvm.Cond.fieldLink "SchemaSubjects$Schema" (12 : Nat) "SchemaSubjects$Schema" "fields" "Ljava/util/ArrayList;") ∈ zG := z_g 199 (by decide +kernel) (by decide +kernel)
theorem zw200 : (Jvm.Cond.fieldLink "SchemaSubjects" (81 : Nat) "SchemaSubjects$Schema" "fields" "Ljava/util/ArrayList;") ∈ zG := z_g 200 (by decide +kernel) (by decide +kernel)
theorem zw201 : (Jvm.Cond.fieldLink "SchemaSubjects$Schema" (21 : Nat) "SchemaSubjects$Schema" "places" "LSchemaSubjects$Row;") ∈ zG := z_g 201 (by decide +kernel) (by decide +kernel)
theorem zw202 : (Jvm.Cond.fieldLink "SchemaSubjects" (74 : Nat) "SchemaSubjects$Schema" "places" "LSchemaSubjects$Row;") ∈ zG := z_g 202 (by decide +kernel) (by decide +kernel)
theorem zw203 : (Jvm.Cond.fieldLink "SchemaSubjects$Schema" (25 : Nat) "SchemaSubjects$Schema" "rank" "I") ∈ zG := z_g 203 (by decide +kernel) (by decide +kernel)
theorem zw204 : (Jvm.Cond.fieldLink "SchemaSubjects" (198 : Nat) "SchemaSubjects$Schema" "rank" "I") ∈ zG := z_g 204 (by decide +kernel) (by decide +kernel)
theorem zw212 : (Jvm.Cond.classLink "SchemaSubjects" (33 : Nat) "SchemaSubjects$Row") ∈ zG := z_g 212 (by decide +kernel) (by decide +kernel)
theorem zw213 : (Jvm.Cond.methodLink "SchemaSubjects" (35 : Nat) ({ cls := "SchemaSubjects$Row", name := "<init>", desc := "()V" } : Jvm.MethodName)) ∈ zG := z_g 213 (by decide +kernel) (by decide +kernel)
theorem zw214 : (Jvm.Cond.fieldLink "SchemaSubjects" (10 : Nat) "SchemaSubjects" "subjects" "Ljava/util/ArrayList;") ∈ zG := z_g 214 (by decide +kernel) (by decide +kernel)
theorem zw215 : (Jvm.Cond.fieldLink "SchemaSubjects" (23 : Nat) "SchemaSubjects" "numbered" "Ljava/util/ArrayList;") ∈ zG := z_g 215 (by decide +kernel) (by decide +kernel)
theorem zw216 : (Jvm.Cond.fieldLink "SchemaSubjects" (29 : Nat) "SchemaSubjects" "draft" "LSchemaSubjects$Schema;") ∈ zG := z_g 216 (by decide +kernel) (by decide +kernel)
theorem zw217 : (Jvm.Cond.fieldLink "SchemaSubjects" (36 : Nat) "SchemaSubjects" "recordDraft" "LSchemaSubjects$Row;") ∈ zG := z_g 217 (by decide +kernel) (by decide +kernel)
theorem zw218 : (Jvm.Cond.fieldLink "SchemaSubjects" (40 : Nat) "SchemaSubjects" "spare" "LSchemaSubjects$Row;") ∈ zG := z_g 218 (by decide +kernel) (by decide +kernel)
theorem zw219 : (Jvm.Cond.fieldLink "SchemaSubjects" (43 : Nat) "SchemaSubjects" "trial" "LSchemaSubjects$Row;") ∈ zG := z_g 219 (by decide +kernel) (by decide +kernel)
theorem zw237 : (Jvm.Cond.methodLink "SchemaSubjects" (84 : Nat) ({ cls := "java/util/ArrayList", name := "size", desc := "()I" } : Jvm.MethodName)) ∈ zG := z_g 237 (by decide +kernel) (by decide +kernel)
theorem zw238 : (Jvm.Cond.instanceMethod ({ cls := "java/util/ArrayList", name := "size", desc := "()I" } : Jvm.MethodName)) ∈ zG := z_g 238 (by decide +kernel) (by decide +kernel)
theorem zw239 : (Jvm.Cond.selects "java/util/ArrayList" ({ cls := "java/util/ArrayList", name := "size", desc := "()I" } : Jvm.MethodName) ({ cls := "java/util/ArrayList", name := "size", desc := "()I" } : Jvm.MethodName)) ∈ zG := z_g 239 (by decide +kernel) (by decide +kernel)
theorem zw240 : (Jvm.Cond.code ({ cls := "java/util/ArrayList", name := "size", desc := "()I" } : Jvm.MethodName) prog_23_method_8_code (1 : Nat) (Option.some Jvm.ClassFile.FieldType.int)) ∈ zG := z_g 240 (by decide +kernel) (by decide +kernel)
theorem zw241 : (Jvm.Cond.methodLink "SchemaSubjects" (137 : Nat) ({ cls := "SchemaSubjects$Schema", name := "empty", desc := "()V" } : Jvm.MethodName)) ∈ zG := z_g 241 (by decide +kernel) (by decide +kernel)
theorem zw242 : (Jvm.Cond.instanceMethod ({ cls := "SchemaSubjects$Schema", name := "empty", desc := "()V" } : Jvm.MethodName)) ∈ zG := z_g 242 (by decide +kernel) (by decide +kernel)
theorem zw243 : (Jvm.Cond.selects "SchemaSubjects$Schema" ({ cls := "SchemaSubjects$Schema", name := "empty", desc := "()V" } : Jvm.MethodName) ({ cls := "SchemaSubjects$Schema", name := "empty", desc := "()V" } : Jvm.MethodName)) ∈ zG := z_g 243 (by decide +kernel) (by decide +kernel)
theorem zw244 : (Jvm.Cond.code ({ cls := "SchemaSubjects$Schema", name := "empty", desc := "()V" } : Jvm.MethodName) prog_4_method_3_code (1 : Nat) (Option.none : Option Jvm.ClassFile.FieldType)) ∈ zG := z_g 244 (by decide +kernel) (by decide +kernel)
theorem zw245 : (Jvm.Cond.methodLink "SchemaSubjects$Schema" (56 : Nat) ({ cls := "java/util/ArrayList", name := "clear", desc := "()V" } : Jvm.MethodName)) ∈ zG := z_g 245 (by decide +kernel) (by decide +kernel)
theorem zw246 : (Jvm.Cond.instanceMethod ({ cls := "java/util/ArrayList", name := "clear", desc := "()V" } : Jvm.MethodName)) ∈ zG := z_g 246 (by decide +kernel) (by decide +kernel)
theorem zw247 : (Jvm.Cond.selects "java/util/ArrayList" ({ cls := "java/util/ArrayList", name := "clear", desc := "()V" } : Jvm.MethodName) ({ cls := "java/util/ArrayList", name := "clear", desc := "()V" } : Jvm.MethodName)) ∈ zG := z_g 247 (by decide +kernel) (by decide +kernel)
theorem zw248 : (Jvm.Cond.code ({ cls := "java/util/ArrayList", name := "clear", desc := "()V" } : Jvm.MethodName) prog_23_method_40_code (4 : Nat) (Option.none : Option Jvm.ClassFile.FieldType)) ∈ zG := z_g 248 (by decide +kernel) (by decide +kernel)
theorem zw249 : (Jvm.Cond.methodLink "SchemaSubjects$Schema" (59 : Nat) ({ cls := "SchemaSubjects$Row", name := "empty", desc := "()V" } : Jvm.MethodName)) ∈ zG := z_g 249 (by decide +kernel) (by decide +kernel)
theorem zw250 : (Jvm.Cond.instanceMethod ({ cls := "SchemaSubjects$Row", name := "empty", desc := "()V" } : Jvm.MethodName)) ∈ zG := z_g 250 (by decide +kernel) (by decide +kernel)
theorem zw251 : (Jvm.Cond.selects "SchemaSubjects$Row" ({ cls := "SchemaSubjects$Row", name := "empty", desc := "()V" } : Jvm.MethodName) ({ cls := "SchemaSubjects$Row", name := "empty", desc := "()V" } : Jvm.MethodName)) ∈ zG := z_g 251 (by decide +kernel) (by decide +kernel)
theorem zw252 : (Jvm.Cond.code ({ cls := "SchemaSubjects$Row", name := "empty", desc := "()V" } : Jvm.MethodName) prog_3_method_6_code (1 : Nat) (Option.none : Option Jvm.ClassFile.FieldType)) ∈ zG := z_g 252 (by decide +kernel) (by decide +kernel)
theorem zw257 : (Jvm.Cond.methodLink "SchemaSubjects" (77 : Nat) ({ cls := "SchemaSubjects$Row", name := "count", desc := "()I" } : Jvm.MethodName)) ∈ zG := z_g 257 (by decide +kernel) (by decide +kernel)
theorem zw258 : (Jvm.Cond.instanceMethod ({ cls := "SchemaSubjects$Row", name := "count", desc := "()I" } : Jvm.MethodName)) ∈ zG := z_g 258 (by decide +kernel) (by decide +kernel)
theorem zw259 : (Jvm.Cond.selects "SchemaSubjects$Row" ({ cls := "SchemaSubjects$Row", name := "count", desc := "()I" } : Jvm.MethodName) ({ cls := "SchemaSubjects$Row", name := "count", desc := "()I" } : Jvm.MethodName)) ∈ zG := z_g 259 (by decide +kernel) (by decide +kernel)
theorem zw260 : (Jvm.Cond.code ({ cls := "SchemaSubjects$Row", name := "count", desc := "()I" } : Jvm.MethodName) prog_3_method_2_code (1 : Nat) (Option.some Jvm.ClassFile.FieldType.int)) ∈ zG := z_g 260 (by decide +kernel) (by decide +kernel)
theorem zw261 : (Jvm.Cond.methodLink "SchemaSubjects" (219 : Nat) ({ cls := "SchemaSubjects$Row", name := "empty", desc := "()V" } : Jvm.MethodName)) ∈ zG := z_g 261 (by decide +kernel) (by decide +kernel)
theorem zw272 : (Jvm.Cond.methodLink "SchemaSubjects" (46 : Nat) ({ cls := "SchemaSubjects", name := "isName", desc := "(I)Z" } : Jvm.MethodName)) ∈ zG := z_g 272 (by decide +kernel) (by decide +kernel)
theorem zw273 : (Jvm.Cond.static ({ cls := "SchemaSubjects", name := "isName", desc := "(I)Z" } : Jvm.MethodName)) ∈ zG := z_g 273 (by decide +kernel) (by decide +kernel)
theorem zw274 : (Jvm.Cond.code ({ cls := "SchemaSubjects", name := "isName", desc := "(I)Z" } : Jvm.MethodName) prog_1_method_25_code (1 : Nat) (Option.some Jvm.ClassFile.FieldType.boolean)) ∈ zG := z_g 274 (by decide +kernel) (by decide +kernel)
theorem zw275 : (Jvm.Cond.methodLink "SchemaSubjects" (50 : Nat) ({ cls := "SchemaSubjects", name := "isType", desc := "(I)Z" } : Jvm.MethodName)) ∈ zG := z_g 275 (by decide +kernel) (by decide +kernel)
theorem zw276 : (Jvm.Cond.static ({ cls := "SchemaSubjects", name := "isType", desc := "(I)Z" } : Jvm.MethodName)) ∈ zG := z_g 276 (by decide +kernel) (by decide +kernel)
theorem zw277 : (Jvm.Cond.code ({ cls := "SchemaSubjects", name := "isType", desc := "(I)Z" } : Jvm.MethodName) prog_1_method_26_code (1 : Nat) (Option.some Jvm.ClassFile.FieldType.boolean)) ∈ zG := z_g 277 (by decide +kernel) (by decide +kernel)
theorem zw278 : (Jvm.Cond.classLink "SchemaSubjects" (53 : Nat) "java/lang/IllegalArgumentException") ∈ zG := z_g 278 (by decide +kernel) (by decide +kernel)
theorem zw346 : (Jvm.Cond.methodLink "SchemaSubjects" (60 : Nat) ({ cls := "SchemaSubjects", name := "isSize", desc := "(I)Z" } : Jvm.MethodName)) ∈ zG := z_g 346 (by decide +kernel) (by decide +kernel)
theorem zw347 : (Jvm.Cond.static ({ cls := "SchemaSubjects", name := "isSize", desc := "(I)Z" } : Jvm.MethodName)) ∈ zG := z_g 347 (by decide +kernel) (by decide +kernel)
theorem zw348 : (Jvm.Cond.code ({ cls := "SchemaSubjects", name := "isSize", desc := "(I)Z" } : Jvm.MethodName) prog_1_method_27_code (1 : Nat) (Option.some Jvm.ClassFile.FieldType.boolean)) ∈ zG := z_g 348 (by decide +kernel) (by decide +kernel)
theorem zw350 : (Jvm.Cond.methodLink "SchemaSubjects" (65 : Nat) ({ cls := "SchemaSubjects", name := "referable", desc := "(I)LSchemaSubjects$Schema;" } : Jvm.MethodName)) ∈ zG := z_g 350 (by decide +kernel) (by decide +kernel)
theorem zw352 : (Jvm.Cond.instanceMethod ({ cls := "SchemaSubjects", name := "referable", desc := "(I)LSchemaSubjects$Schema;" } : Jvm.MethodName)) ∈ zG := z_g 352 (by decide +kernel) (by decide +kernel)
theorem zw353 : (Jvm.Cond.code ({ cls := "SchemaSubjects", name := "referable", desc := "(I)LSchemaSubjects$Schema;" } : Jvm.MethodName) prog_1_method_30_code (3 : Nat) (Option.some (Jvm.ClassFile.FieldType.object "SchemaSubjects$Schema"))) ∈ zG := z_g 353 (by decide +kernel) (by decide +kernel)
theorem zw354 : (Jvm.Cond.methodLink "SchemaSubjects" (242 : Nat) ({ cls := "java/util/ArrayList", name := "get", desc := "(I)Ljava/lang/Object;" } : Jvm.MethodName)) ∈ zG := z_g 354 (by decide +kernel) (by decide +kernel)
theorem zw355 : (Jvm.Cond.instanceMethod ({ cls := "java/util/ArrayList", name := "get", desc := "(I)Ljava/lang/Object;" } : Jvm.MethodName)) ∈ zG := z_g 355 (by decide +kernel) (by decide +kernel)
theorem zw356 : (Jvm.Cond.selects "java/util/ArrayList" ({ cls := "java/util/ArrayList", name := "get", desc := "(I)Ljava/lang/Object;" } : Jvm.MethodName) ({ cls := "java/util/ArrayList", name := "get", desc := "(I)Ljava/lang/Object;" } : Jvm.MethodName)) ∈ zG := z_g 356 (by decide +kernel) (by decide +kernel)
theorem zw357 : (Jvm.Cond.code ({ cls := "java/util/ArrayList", name := "get", desc := "(I)Ljava/lang/Object;" } : Jvm.MethodName) prog_23_method_20_code (2 : Nat) (Option.some (Jvm.ClassFile.FieldType.object "java/lang/Object"))) ∈ zG := z_g 357 (by decide +kernel) (by decide +kernel)
theorem zw358 : (Jvm.Cond.methodLink "java/util/ArrayList" (118 : Nat) ({ cls := "java/util/Objects", name := "checkIndex", desc := "(II)I" } : Jvm.MethodName)) ∈ zG := z_g 358 (by decide +kernel) (by decide +kernel)
theorem zw359 : (Jvm.Cond.static ({ cls := "java/util/Objects", name := "checkIndex", desc := "(II)I" } : Jvm.MethodName)) ∈ zG := z_g 359 (by decide +kernel) (by decide +kernel)
theorem zw360 : (Jvm.Cond.code ({ cls := "java/util/Objects", name := "checkIndex", desc := "(II)I" } : Jvm.MethodName) prog_27_method_17_code (2 : Nat) (Option.some Jvm.ClassFile.FieldType.int)) ∈ zG := z_g 360 (by decide +kernel) (by decide +kernel)
theorem zw361 : (Jvm.Cond.methodLink "java/util/Objects" (105 : Nat) ({ cls := "jdk/internal/util/Preconditions", name := "checkIndex", desc := "(IILjava/util/function/BiFunction;)I" } : Jvm.MethodName)) ∈ zG := z_g 361 (by decide +kernel) (by decide +kernel)
theorem zw362 : (Jvm.Cond.static ({ cls := "jdk/internal/util/Preconditions", name := "checkIndex", desc := "(IILjava/util/function/BiFunction;)I" } : Jvm.MethodName)) ∈ zG := z_g 362 (by decide +kernel) (by decide +kernel)
theorem zw363 : (Jvm.Cond.code ({ cls := "jdk/internal/util/Preconditions", name := "checkIndex", desc := "(IILjava/util/function/BiFunction;)I" } : Jvm.MethodName) prog_31_method_11_code (3 : Nat) (Option.some Jvm.ClassFile.FieldType.int)) ∈ zG := z_g 363 (by decide +kernel) (by decide +kernel)
theorem zw364 : (Jvm.Cond.methodLink "java/util/ArrayList" (123 : Nat) ({ cls := "java/util/ArrayList", name := "elementData", desc := "(I)Ljava/lang/Object;" } : Jvm.MethodName)) ∈ zG := z_g 364 (by decide +kernel) (by decide +kernel)
theorem zw365 : (Jvm.Cond.instanceMethod ({ cls := "java/util/ArrayList", name := "elementData", desc := "(I)Ljava/lang/Object;" } : Jvm.MethodName)) ∈ zG := z_g 365 (by decide +kernel) (by decide +kernel)
theorem zw366 : (Jvm.Cond.selects "java/util/ArrayList" ({ cls := "java/util/ArrayList", name := "elementData", desc := "(I)Ljava/lang/Object;" } : Jvm.MethodName) ({ cls := "java/util/ArrayList", name := "elementData", desc := "(I)Ljava/lang/Object;" } : Jvm.MethodName)) ∈ zG := z_g 366 (by decide +kernel) (by decide +kernel)
theorem zw367 : (Jvm.Cond.code ({ cls := "java/util/ArrayList", name := "elementData", desc := "(I)Ljava/lang/Object;" } : Jvm.MethodName) prog_23_method_18_code (2 : Nat) (Option.some (Jvm.ClassFile.FieldType.object "java/lang/Object"))) ∈ zG := z_g 367 (by decide +kernel) (by decide +kernel)
theorem zw368 : (Jvm.Cond.methodLink "SchemaSubjects" (246 : Nat) ({ cls := "SchemaSubjects$Subject", name := "keptVersion", desc := "(I)LSchemaSubjects$Version;" } : Jvm.MethodName)) ∈ zG := z_g 368 (by decide +kernel) (by decide +kernel)
theorem zw369 : (Jvm.Cond.instanceMethod ({ cls := "SchemaSubjects$Subject", name := "keptVersion", desc := "(I)LSchemaSubjects$Version;" } : Jvm.MethodName)) ∈ zG := z_g 369 (by decide +kernel) (by decide +kernel)
theorem zw370 : (Jvm.Cond.selects "SchemaSubjects$Subject" ({ cls := "SchemaSubjects$Subject", name := "keptVersion", desc := "(I)LSchemaSubjects$Version;" } : Jvm.MethodName) ({ cls := "SchemaSubjects$Subject", name := "keptVersion", desc := "(I)LSchemaSubjects$Version;" } : Jvm.MethodName)) ∈ zG := z_g 370 (by decide +kernel) (by decide +kernel)
theorem zw371 : (Jvm.Cond.code ({ cls := "SchemaSubjects$Subject", name := "keptVersion", desc := "(I)LSchemaSubjects$Version;" } : Jvm.MethodName) prog_5_method_2_code (3 : Nat) (Option.some (Jvm.ClassFile.FieldType.object "SchemaSubjects$Version"))) ∈ zG := z_g 371 (by decide +kernel) (by decide +kernel)
theorem zw372 : (Jvm.Cond.methodLink "SchemaSubjects$Subject" (18 : Nat) ({ cls := "java/util/ArrayList", name := "size", desc := "()I" } : Jvm.MethodName)) ∈ zG := z_g 372 (by decide +kernel) (by decide +kernel)
theorem zw373 : (Jvm.Cond.methodLink "SchemaSubjects$Subject" (22 : Nat) ({ cls := "java/util/ArrayList", name := "get", desc := "(I)Ljava/lang/Object;" } : Jvm.MethodName)) ∈ zG := z_g 373 (by decide +kernel) (by decide +kernel)
theorem zw374 : (Jvm.Cond.classLink "SchemaSubjects$Subject" (26 : Nat) "SchemaSubjects$Version") ∈ zG := z_g 374 (by decide +kernel) (by decide +kernel)
theorem zw375 : (Jvm.Cond.classLink "SchemaSubjects" (69 : Nat) "java/lang/IndexOutOfBoundsException") ∈ zG := z_g 375 (by decide +kernel) (by decide +kernel)
theorem zw391 : (Jvm.Cond.methodLink "SchemaSubjects" (87 : Nat) ({ cls := "SchemaSubjects$Schema", name := "named", desc := "(I)LSchemaSubjects$Field;" } : Jvm.MethodName)) ∈ zG := z_g 391 (by decide +kernel) (by decide +kernel)
theorem zw392 : (Jvm.Cond.instanceMethod ({ cls := "SchemaSubjects$Schema", name := "named", desc := "(I)LSchemaSubjects$Field;" } : Jvm.MethodName)) ∈ zG := z_g 392 (by decide +kernel) (by decide +kernel)
theorem zw393 : (Jvm.Cond.selects "SchemaSubjects$Schema" ({ cls := "SchemaSubjects$Schema", name := "named", desc := "(I)LSchemaSubjects$Field;" } : Jvm.MethodName) ({ cls := "SchemaSubjects$Schema", name := "named", desc := "(I)LSchemaSubjects$Field;" } : Jvm.MethodName)) ∈ zG := z_g 393 (by decide +kernel) (by decide +kernel)
theorem zw394 : (Jvm.Cond.code ({ cls := "SchemaSubjects$Schema", name := "named", desc := "(I)LSchemaSubjects$Field;" } : Jvm.MethodName) prog_4_method_5_code (3 : Nat) (Option.some (Jvm.ClassFile.FieldType.object "SchemaSubjects$Field"))) ∈ zG := z_g 394 (by decide +kernel) (by decide +kernel)
theorem zw395 : (Jvm.Cond.methodLink "SchemaSubjects$Schema" (66 : Nat) ({ cls := "java/util/ArrayList", name := "size", desc := "()I" } : Jvm.MethodName)) ∈ zG := z_g 395 (by decide +kernel) (by decide +kernel)
theorem zw396 : (Jvm.Cond.methodLink "SchemaSubjects$Schema" (68 : Nat) ({ cls := "java/util/ArrayList", name := "get", desc := "(I)Ljava/lang/Object;" } : Jvm.MethodName)) ∈ zG := z_g 396 (by decide +kernel) (by decide +kernel)
theorem zw397 : (Jvm.Cond.classLink "SchemaSubjects$Schema" (34 : Nat) "SchemaSubjects$Field") ∈ zG := z_g 397 (by decide +kernel) (by decide +kernel)
theorem zw398 : (Jvm.Cond.classLink "SchemaSubjects" (91 : Nat) "java/lang/IllegalStateException") ∈ zG := z_g 398 (by decide +kernel) (by decide +kernel)
theorem zw414 : (Jvm.Cond.classLink "SchemaSubjects" (96 : Nat) "SchemaSubjects$Field") ∈ zG := z_g 414 (by decide +kernel) (by decide +kernel)
theorem zw415 : (Jvm.Cond.instantiable "SchemaSubjects$Field" (9 : Nat)) ∈ zG := z_g 415 (by decide +kernel) (by decide +kernel)
theorem zw416 : (Jvm.Cond.methodLink "SchemaSubjects" (98 : Nat) ({ cls := "SchemaSubjects", name := "sizeOf", desc := "(II)I" } : Jvm.MethodName)) ∈ zG := z_g 416 (by decide +kernel) (by decide +kernel)
theorem zw417 : (Jvm.Cond.static ({ cls := "SchemaSubjects", name := "sizeOf", desc := "(II)I" } : Jvm.MethodName)) ∈ zG := z_g 417 (by decide +kernel) (by decide +kernel)
theorem zw418 : (Jvm.Cond.code ({ cls := "SchemaSubjects", name := "sizeOf", desc := "(II)I" } : Jvm.MethodName) prog_1_method_28_code (2 : Nat) (Option.some Jvm.ClassFile.FieldType.int)) ∈ zG := z_g 418 (by decide +kernel) (by decide +kernel)
theorem zw419 : (Jvm.Cond.methodLink "SchemaSubjects" (102 : Nat) ({ cls := "SchemaSubjects$Field", name := "<init>", desc := "(IIIIILSchemaSubjects$Schema;)V" } : Jvm.MethodName)) ∈ zG := z_g 419 (by decide +kernel) (by decide +kernel)
theorem zw420 : (Jvm.Cond.instanceMethod ({ cls := "SchemaSubjects$Field", name := "<init>", desc := "(IIIIILSchemaSubjects$Schema;)V" } : Jvm.MethodName)) ∈ zG := z_g 420 (by decide +kernel) (by decide +kernel)
theorem zw421 : (Jvm.Cond.code ({ cls := "SchemaSubjects$Field", name := "<init>", desc := "(IIIIILSchemaSubjects$Schema;)V" } : Jvm.MethodName) prog_2_method_1_code (7 : Nat) (Option.none : Option Jvm.ClassFile.FieldType)) ∈ zG := z_g 421 (by decide +kernel) (by decide +kernel)
theorem zw422 : (Jvm.Cond.methodLink "SchemaSubjects$Field" (3 : Nat) ({ cls := "java/lang/Object", name := "<init>", desc := "()V" } : Jvm.MethodName)) ∈ zG := z_g 422 (by decide +kernel) (by decide +kernel)
theorem zw423 : (Jvm.Cond.fieldLink "SchemaSubjects$Field" (9 : Nat) "SchemaSubjects$Field" "name" "I") ∈ zG := z_g 423 (by decide +kernel) (by decide +kernel)
theorem zw424 : (Jvm.Cond.fieldLink "SchemaSubjects" (134 : Nat) "SchemaSubjects$Field" "name" "I") ∈ zG := z_g 424 (by decide +kernel) (by decide +kernel)
theorem zw425 : (Jvm.Cond.fieldLink "SchemaSubjects$Schema" (72 : Nat) "SchemaSubjects$Field" "name" "I") ∈ zG := z_g 425 (by decide +kernel) (by decide +kernel)
theorem zw426 : (Jvm.Cond.fieldLink "SchemaSubjects$Field" (15 : Nat) "SchemaSubjects$Field" "type" "I") ∈ zG := z_g 426 (by decide +kernel) (by decide +kernel)
theorem zw427 : (Jvm.Cond.fieldLink "SchemaSubjects" (113 : Nat) "SchemaSubjects$Field" "type" "I") ∈ zG := z_g 427 (by decide +kernel) (by decide +kernel)
theorem zw428 : (Jvm.Cond.fieldLink "SchemaSubjects$Field" (18 : Nat) "SchemaSubjects$Field" "size" "I") ∈ zG := z_g 428 (by decide +kernel) (by decide +kernel)
theorem zw429 : (Jvm.Cond.fieldLink "SchemaSubjects$Schema" (46 : Nat) "SchemaSubjects$Field" "size" "I") ∈ zG := z_g 429 (by decide +kernel) (by decide +kernel)
theorem zw430 : (Jvm.Cond.fieldLink "SchemaSubjects" (119 : Nat) "SchemaSubjects$Field" "size" "I") ∈ zG := z_g 430 (by decide +kernel) (by decide +kernel)
theorem zw431 : (Jvm.Cond.fieldLink "SchemaSubjects$Field" (21 : Nat) "SchemaSubjects$Field" "alias" "I") ∈ zG := z_g 431 (by decide +kernel) (by decide +kernel)
theorem zw432 : (Jvm.Cond.fieldLink "SchemaSubjects$Schema" (79 : Nat) "SchemaSubjects$Field" "alias" "I") ∈ zG := z_g 432 (by decide +kernel) (by decide +kernel)
theorem zw433 : (Jvm.Cond.fieldLink "SchemaSubjects$Field" (24 : Nat) "SchemaSubjects$Field" "reference" "I") ∈ zG := z_g 433 (by decide +kernel) (by decide +kernel)
theorem zw434 : (Jvm.Cond.fieldLink "SchemaSubjects$Schema" (82 : Nat) "SchemaSubjects$Field" "reference" "I") ∈ zG := z_g 434 (by decide +kernel) (by decide +kernel)
theorem zw435 : (Jvm.Cond.fieldLink "SchemaSubjects$Field" (27 : Nat) "SchemaSubjects$Field" "referred" "LSchemaSubjects$Schema;") ∈ zG := z_g 435 (by decide +kernel) (by decide +kernel)
theorem zw436 : (Jvm.Cond.fieldLink "SchemaSubjects$Schema" (42 : Nat) "SchemaSubjects$Field" "referred" "LSchemaSubjects$Schema;") ∈ zG := z_g 436 (by decide +kernel) (by decide +kernel)
theorem zw437 : (Jvm.Cond.fieldLink "SchemaSubjects" (279 : Nat) "SchemaSubjects$Field" "referred" "LSchemaSubjects$Schema;") ∈ zG := z_g 437 (by decide +kernel) (by decide +kernel)
theorem zw438 : (Jvm.Cond.fieldLink "SchemaSubjects$Schema" (33 : Nat) "SchemaSubjects$Field" "begin" "I") ∈ zG := z_g 438 (by decide +kernel) (by decide +kernel)
theorem zw439 : (Jvm.Cond.fieldLink "SchemaSubjects" (290 : Nat) "SchemaSubjects$Field" "begin" "I") ∈ zG := z_g 439 (by decide +kernel) (by decide +kernel)
theorem zw440 : (Jvm.Cond.fieldLink "SchemaSubjects" (127 : Nat) "SchemaSubjects$Field" "hasDefault" "Z") ∈ zG := z_g 440 (by decide +kernel) (by decide +kernel)
theorem zw441 : (Jvm.Cond.fieldLink "SchemaSubjects$Field" (31 : Nat) "SchemaSubjects$Field" "hasDefault" "Z") ∈ zG := z_g 441 (by decide +kernel) (by decide +kernel)
theorem zw442 : (Jvm.Cond.fieldLink "SchemaSubjects" (131 : Nat) "SchemaSubjects$Field" "defaultNumber" "I") ∈ zG := z_g 442 (by decide +kernel) (by decide +kernel)
theorem zw443 : (Jvm.Cond.fieldLink "SchemaSubjects$Field" (35 : Nat) "SchemaSubjects$Field" "defaultNumber" "I") ∈ zG := z_g 443 (by decide +kernel) (by decide +kernel)
theorem zw463 : (Jvm.Cond.methodLink "SchemaSubjects" (105 : Nat) ({ cls := "SchemaSubjects$Schema", name := "append", desc := "(LSchemaSubjects$Field;)V" } : Jvm.MethodName)) ∈ zG := z_g 463 (by decide +kernel) (by decide +kernel)
theorem zw464 : (Jvm.Cond.instanceMethod ({ cls := "SchemaSubjects$Schema", name := "append", desc := "(LSchemaSubjects$Field;)V" } : Jvm.MethodName)) ∈ zG := z_g 464 (by decide +kernel) (by decide +kernel)
theorem zw465 : (Jvm.Cond.selects "SchemaSubjects$Schema" ({ cls := "SchemaSubjects$Schema", name := "append", desc := "(LSchemaSubjects$Field;)V" } : Jvm.MethodName) ({ cls := "SchemaSubjects$Schema", name := "append", desc := "(LSchemaSubjects$Field;)V" } : Jvm.MethodName)) ∈ zG := z_g 465 (by decide +kernel) (by decide +kernel)
theorem zw466 : (Jvm.Cond.code ({ cls := "SchemaSubjects$Schema", name := "append", desc := "(LSchemaSubjects$Field;)V" } : Jvm.MethodName) prog_4_method_2_code (2 : Nat) (Option.none : Option Jvm.ClassFile.FieldType)) ∈ zG := z_g 466 (by decide +kernel) (by decide +kernel)
theorem zw467 : (Jvm.Cond.methodLink "SchemaSubjects$Schema" (29 : Nat) ({ cls := "SchemaSubjects$Row", name := "count", desc := "()I" } : Jvm.MethodName)) ∈ zG := z_g 467 (by decide +kernel) (by decide +kernel)
theorem zw468 : (Jvm.Cond.methodLink "SchemaSubjects$Schema" (38 : Nat) ({ cls := "java/util/ArrayList", name := "add", desc := "(Ljava/lang/Object;)Z" } : Jvm.MethodName)) ∈ zG := z_g 468 (by decide +kernel) (by decide +kernel)
theorem zw469 : (Jvm.Cond.methodLink "SchemaSubjects$Schema" (49 : Nat) ({ cls := "SchemaSubjects$Row", name := "add", desc := "(I)V" } : Jvm.MethodName)) ∈ zG := z_g 469 (by decide +kernel) (by decide +kernel)
theorem zw470 : (Jvm.Cond.instanceMethod ({ cls := "SchemaSubjects$Row", name := "add", desc := "(I)V" } : Jvm.MethodName)) ∈ zG := z_g 470 (by decide +kernel) (by decide +kernel)
theorem zw471 : (Jvm.Cond.selects "SchemaSubjects$Row" ({ cls := "SchemaSubjects$Row", name := "add", desc := "(I)V" } : Jvm.MethodName) ({ cls := "SchemaSubjects$Row", name := "add", desc := "(I)V" } : Jvm.MethodName)) ∈ zG := z_g 471 (by decide +kernel) (by decide +kernel)
theorem zw472 : (Jvm.Cond.code ({ cls := "SchemaSubjects$Row", name := "add", desc := "(I)V" } : Jvm.MethodName) prog_3_method_4_code (2 : Nat) (Option.none : Option Jvm.ClassFile.FieldType)) ∈ zG := z_g 472 (by decide +kernel) (by decide +kernel)
theorem zw473 : (Jvm.Cond.methodLink "SchemaSubjects$Schema" (52 : Nat) ({ cls := "SchemaSubjects$Row", name := "addAll", desc := "(LSchemaSubjects$Row;)V" } : Jvm.MethodName)) ∈ zG := z_g 473 (by decide +kernel) (by decide +kernel)
theorem zw474 : (Jvm.Cond.instanceMethod ({ cls := "SchemaSubjects$Row", name := "addAll", desc := "(LSchemaSubjects$Row;)V" } : Jvm.MethodName)) ∈ zG := z_g 474 (by decide +kernel) (by decide +kernel)
theorem zw475 : (Jvm.Cond.selects "SchemaSubjects$Row" ({ cls := "SchemaSubjects$Row", name := "addAll", desc := "(LSchemaSubjects$Row;)V" } : Jvm.MethodName) ({ cls := "SchemaSubjects$Row", name := "addAll", desc := "(LSchemaSubjects$Row;)V" } : Jvm.MethodName)) ∈ zG := z_g 475 (by decide +kernel) (by decide +kernel)
theorem zw476 : (Jvm.Cond.code ({ cls := "SchemaSubjects$Row", name := "addAll", desc := "(LSchemaSubjects$Row;)V" } : Jvm.MethodName) prog_3_method_5_code (3 : Nat) (Option.none : Option Jvm.ClassFile.FieldType)) ∈ zG := z_g 476 (by decide +kernel) (by decide +kernel)
theorem zw477 : (Jvm.Cond.methodLink "SchemaSubjects$Row" (19 : Nat) ({ cls := "SchemaSubjects$Row", name := "count", desc := "()I" } : Jvm.MethodName)) ∈ zG := z_g 477 (by decide +kernel) (by decide +kernel)
theorem zw478 : (Jvm.Cond.methodLink "SchemaSubjects$Row" (23 : Nat) ({ cls := "SchemaSubjects$Row", name := "at", desc := "(I)I" } : Jvm.MethodName)) ∈ zG := z_g 478 (by decide +kernel) (by decide +kernel)
theorem zw479 : (Jvm.Cond.instanceMethod ({ cls := "SchemaSubjects$Row", name := "at", desc := "(I)I" } : Jvm.MethodName)) ∈ zG := z_g 479 (by decide +kernel) (by decide +kernel)
theorem zw480 : (Jvm.Cond.selects "SchemaSubjects$Row" ({ cls := "SchemaSubjects$Row", name := "at", desc := "(I)I" } : Jvm.MethodName) ({ cls := "SchemaSubjects$Row", name := "at", desc := "(I)I" } : Jvm.MethodName)) ∈ zG := z_g 480 (by decide +kernel) (by decide +kernel)
theorem zw481 : (Jvm.Cond.code ({ cls := "SchemaSubjects$Row", name := "at", desc := "(I)I" } : Jvm.MethodName) prog_3_method_3_code (2 : Nat) (Option.some Jvm.ClassFile.FieldType.int)) ∈ zG := z_g 481 (by decide +kernel) (by decide +kernel)
theorem zw482 : (Jvm.Cond.methodLink "SchemaSubjects$Row" (27 : Nat) ({ cls := "SchemaSubjects$Row", name := "add", desc := "(I)V" } : Jvm.MethodName)) ∈ zG := z_g 482 (by decide +kernel) (by decide +kernel)
theorem zw490 : (Jvm.Cond.methodLink "SchemaSubjects" (109 : Nat) ({ cls := "SchemaSubjects$Schema", name := "last", desc := "()LSchemaSubjects$Field;" } : Jvm.MethodName)) ∈ zG := z_g 490 (by decide +kernel) (by decide +kernel)
theorem zw491 : (Jvm.Cond.instanceMethod ({ cls := "SchemaSubjects$Schema", name := "last", desc := "()LSchemaSubjects$Field;" } : Jvm.MethodName)) ∈ zG := z_g 491 (by decide +kernel) (by decide +kernel)
theorem zw492 : (Jvm.Cond.selects "SchemaSubjects$Schema" ({ cls := "SchemaSubjects$Schema", name := "last", desc := "()LSchemaSubjects$Field;" } : Jvm.MethodName) ({ cls := "SchemaSubjects$Schema", name := "last", desc := "()LSchemaSubjects$Field;" } : Jvm.MethodName)) ∈ zG := z_g 492 (by decide +kernel) (by decide +kernel)
theorem zw493 : (Jvm.Cond.code ({ cls := "SchemaSubjects$Schema", name := "last", desc := "()LSchemaSubjects$Field;" } : Jvm.MethodName) prog_4_method_4_code (1 : Nat) (Option.some (Jvm.ClassFile.FieldType.object "SchemaSubjects$Field"))) ∈ zG := z_g 493 (by decide +kernel) (by decide +kernel)
theorem zw494 : (Jvm.Cond.methodLink "SchemaSubjects$Schema" (62 : Nat) ({ cls := "java/util/ArrayList", name := "isEmpty", desc := "()Z" } : Jvm.MethodName)) ∈ zG := z_g 494 (by decide +kernel) (by decide +kernel)
theorem zw495 : (Jvm.Cond.instanceMethod ({ cls := "java/util/ArrayList", name := "isEmpty", desc := "()Z" } : Jvm.MethodName)) ∈ zG := z_g 495 (by decide +kernel) (by decide +kernel)
theorem zw496 : (Jvm.Cond.selects "java/util/ArrayList" ({ cls := "java/util/ArrayList", name := "isEmpty", desc := "()Z" } : Jvm.MethodName) ({ cls := "java/util/ArrayList", name := "isEmpty", desc := "()Z" } : Jvm.MethodName)) ∈ zG := z_g 496 (by decide +kernel) (by decide +kernel)
theorem zw497 : (Jvm.Cond.code ({ cls := "java/util/ArrayList", name := "isEmpty", desc := "()Z" } : Jvm.MethodName) prog_23_method_9_code (1 : Nat) (Option.some Jvm.ClassFile.FieldType.boolean)) ∈ zG := z_g 497 (by decide +kernel) (by decide +kernel)
theorem zw499 : (Jvm.Cond.methodLink "SchemaSubjects" (121 : Nat) ({ cls := "SchemaSubjects", name := "isOfSize", desc := "(II)Z" } : Jvm.MethodName)) ∈ zG := z_g 499 (by decide +kernel) (by decide +kernel)
theorem zw500 : (Jvm.Cond.static ({ cls := "SchemaSubjects", name := "isOfSize", desc := "(II)Z" } : Jvm.MethodName)) ∈ zG := z_g 500 (by decide +kernel) (by decide +kernel)
theorem zw501 : (Jvm.Cond.code ({ cls := "SchemaSubjects", name := "isOfSize", desc := "(II)Z" } : Jvm.MethodName) prog_1_method_29_code (2 : Nat) (Option.some Jvm.ClassFile.FieldType.boolean)) ∈ zG := z_g 501 (by decide +kernel) (by decide +kernel)
theorem zw510 : (Jvm.Cond.methodLink "SchemaSubjects" (140 : Nat) ({ cls := "SchemaSubjects", name := "demandedSubject", desc := "(I)LSchemaSubjects$Subject;" } : Jvm.MethodName)) ∈ zG := z_g 510 (by decide +kernel) (by decide +kernel)
theorem zw512 : (Jvm.Cond.instanceMethod ({ cls := "SchemaSubjects", name := "demandedSubject", desc := "(I)LSchemaSubjects$Subject;" } : Jvm.MethodName)) ∈ zG := z_g 512 (by decide +kernel) (by decide +kernel)
theorem zw513 : (Jvm.Cond.code ({ cls := "SchemaSubjects", name := "demandedSubject", desc := "(I)LSchemaSubjects$Subject;" } : Jvm.MethodName) prog_1_method_20_code (2 : Nat) (Option.some (Jvm.ClassFile.FieldType.object "SchemaSubjects$Subject"))) ∈ zG := z_g 513 (by decide +kernel) (by decide +kernel)
theorem zw515 : (Jvm.Cond.methodLink "SchemaSubjects" (144 : Nat) ({ cls := "SchemaSubjects", name := "demandDraft", desc := "()V" } : Jvm.MethodName)) ∈ zG := z_g 515 (by decide +kernel) (by decide +kernel)
theorem zw517 : (Jvm.Cond.instanceMethod ({ cls := "SchemaSubjects", name := "demandDraft", desc := "()V" } : Jvm.MethodName)) ∈ zG := z_g 517 (by decide +kernel) (by decide +kernel)
theorem zw518 : (Jvm.Cond.code ({ cls := "SchemaSubjects", name := "demandDraft", desc := "()V" } : Jvm.MethodName) prog_1_method_24_code (1 : Nat) (Option.none : Option Jvm.ClassFile.FieldType)) ∈ zG := z_g 518 (by decide +kernel) (by decide +kernel)
theorem zw519 : (Jvm.Cond.methodLink "SchemaSubjects" (255 : Nat) ({ cls := "java/util/ArrayList", name := "isEmpty", desc := "()Z" } : Jvm.MethodName)) ∈ zG := z_g 519 (by decide +kernel) (by decide +kernel)
theorem zw521 : (Jvm.Cond.methodLink "SchemaSubjects" (147 : Nat) ({ cls := "SchemaSubjects$Subject", name := "accepts", desc := "(LSchemaSubjects$Schema;)Z" } : Jvm.MethodName)) ∈ zG := z_g 521 (by decide +kernel) (by decide +kernel)
theorem zw522 : (Jvm.Cond.instanceMethod ({ cls := "SchemaSubjects$Subject", name := "accepts", desc := "(LSchemaSubjects$Schema;)Z" } : Jvm.MethodName)) ∈ zG := z_g 522 (by decide +kernel) (by decide +kernel)
theorem zw523 : (Jvm.Cond.selects "SchemaSubjects$Subject" ({ cls := "SchemaSubjects$Subject", name := "accepts", desc := "(LSchemaSubjects$Schema;)Z" } : Jvm.MethodName) ({ cls := "SchemaSubjects$Subject", name := "accepts", desc := "(LSchemaSubjects$Schema;)Z" } : Jvm.MethodName)) ∈ zG := z_g 523 (by decide +kernel) (by decide +kernel)
theorem zw524 : (Jvm.Cond.code ({ cls := "SchemaSubjects$Subject", name := "accepts", desc := "(LSchemaSubjects$Schema;)Z" } : Jvm.MethodName) prog_5_method_6_code (4 : Nat) (Option.some Jvm.ClassFile.FieldType.boolean)) ∈ zG := z_g 524 (by decide +kernel) (by decide +kernel)
theorem zw525 : (Jvm.Cond.methodLink "SchemaSubjects$Subject" (46 : Nat) ({ cls := "SchemaSubjects$Subject", name := "agrees", desc := "(LSchemaSubjects$Schema;LSchemaSubjects$Schema;)Z" } : Jvm.MethodName)) ∈ zG := z_g 525 (by decide +kernel) (by decide +kernel)
theorem zw527 : (Jvm.Cond.instanceMethod ({ cls := "SchemaSubjects$Subject", name := "agrees", desc := "(LSchemaSubjects$Schema;LSchemaSubjects$Schema;)Z" } : Jvm.MethodName)) ∈ zG := z_g 527 (by decide +kernel) (by decide +kernel)
theorem zw528 : (Jvm.Cond.code ({ cls := "SchemaSubjects$Subject", name := "agrees", desc := "(LSchemaSubjects$Schema;LSchemaSubjects$Schema;)Z" } : Jvm.MethodName) prog_5_method_7_code (3 : Nat) (Option.some Jvm.ClassFile.FieldType.boolean)) ∈ zG := z_g 528 (by decide +kernel) (by decide +kernel)
theorem zw530 : (Jvm.Cond.static ({ cls := "SchemaSubjects", name := "canReadSchema", desc := "(LSchemaSubjects$Schema;LSchemaSubjects$Schema;I)Z" } : Jvm.MethodName)) ∈ zG := z_g 530 (by decide +kernel) (by decide +kernel)
theorem zw531 : (Jvm.Cond.code ({ cls := "SchemaSubjects", name := "canReadSchema", desc := "(LSchemaSubjects$Schema;LSchemaSubjects$Schema;I)Z" } : Jvm.MethodName) prog_1_method_33_code (4 : Nat) (Option.some Jvm.ClassFile.FieldType.boolean)) ∈ zG := z_g 531 (by decide +kernel) (by decide +kernel)
theorem zw532 : (Jvm.Cond.methodLink "SchemaSubjects" (268 : Nat) ({ cls := "SchemaSubjects", name := "canReadField", desc := "(LSchemaSubjects$Field;LSchemaSubjects$Schema;I)Z" } : Jvm.MethodName)) ∈ zG := z_g 532 (by decide +kernel) (by decide +kernel)
theorem zw533 : (Jvm.Cond.static ({ cls := "SchemaSubjects", name := "canReadField", desc := "(LSchemaSubjects$Field;LSchemaSubjects$Schema;I)Z" } : Jvm.MethodName)) ∈ zG := z_g 533 (by decide +kernel) (by decide +kernel)
theorem zw534 : (Jvm.Cond.code ({ cls := "SchemaSubjects", name := "canReadField", desc := "(LSchemaSubjects$Field;LSchemaSubjects$Schema;I)Z" } : Jvm.MethodName) prog_1_method_34_code (4 : Nat) (Option.some Jvm.ClassFile.FieldType.boolean)) ∈ zG := z_g 534 (by decide +kernel) (by decide +kernel)
theorem zw535 : (Jvm.Cond.methodLink "SchemaSubjects" (272 : Nat) ({ cls := "SchemaSubjects$Schema", name := "sourceOf", desc := "(LSchemaSubjects$Field;)LSchemaSubjects$Field;" } : Jvm.MethodName)) ∈ zG := z_g 535 (by decide +kernel) (by decide +kernel)
theorem zw536 : (Jvm.Cond.instanceMethod ({ cls := "SchemaSubjects$Schema", name := "sourceOf", desc := "(LSchemaSubjects$Field;)LSchemaSubjects$Field;" } : Jvm.MethodName)) ∈ zG := z_g 536 (by decide +kernel) (by decide +kernel)
theorem zw537 : (Jvm.Cond.selects "SchemaSubjects$Schema" ({ cls := "SchemaSubjects$Schema", name := "sourceOf", desc := "(LSchemaSubjects$Field;)LSchemaSubjects$Field;" } : Jvm.MethodName) ({ cls := "SchemaSubjects$Schema", name := "sourceOf", desc := "(LSchemaSubjects$Field;)LSchemaSubjects$Field;" } : Jvm.MethodName)) ∈ zG := z_g 537 (by decide +kernel) (by decide +kernel)
theorem zw538 : (Jvm.Cond.code ({ cls := "SchemaSubjects$Schema", name := "sourceOf", desc := "(LSchemaSubjects$Field;)LSchemaSubjects$Field;" } : Jvm.MethodName) prog_4_method_6_code (3 : Nat) (Option.some (Jvm.ClassFile.FieldType.object "SchemaSubjects$Field"))) ∈ zG := z_g 538 (by decide +kernel) (by decide +kernel)
theorem zw539 : (Jvm.Cond.methodLink "SchemaSubjects$Schema" (75 : Nat) ({ cls := "SchemaSubjects$Schema", name := "named", desc := "(I)LSchemaSubjects$Field;" } : Jvm.MethodName)) ∈ zG := z_g 539 (by decide +kernel) (by decide +kernel)
theorem zw540 : (Jvm.Cond.methodLink "SchemaSubjects" (276 : Nat) ({ cls := "SchemaSubjects$Field", name := "isReadFromType", desc := "(I)Z" } : Jvm.MethodName)) ∈ zG := z_g 540 (by decide +kernel) (by decide +kernel)
theorem zw541 : (Jvm.Cond.instanceMethod ({ cls := "SchemaSubjects$Field", name := "isReadFromType", desc := "(I)Z" } : Jvm.MethodName)) ∈ zG := z_g 541 (by decide +kernel) (by decide +kernel)
theorem zw542 : (Jvm.Cond.selects "SchemaSubjects$Field" ({ cls := "SchemaSubjects$Field", name := "isReadFromType", desc := "(I)Z" } : Jvm.MethodName) ({ cls := "SchemaSubjects$Field", name := "isReadFromType", desc := "(I)Z" } : Jvm.MethodName)) ∈ zG := z_g 542 (by decide +kernel) (by decide +kernel)
theorem zw543 : (Jvm.Cond.code ({ cls := "SchemaSubjects$Field", name := "isReadFromType", desc := "(I)Z" } : Jvm.MethodName) prog_2_method_2_code (2 : Nat) (Option.some Jvm.ClassFile.FieldType.boolean)) ∈ zG := z_g 543 (by decide +kernel) (by decide +kernel)
theorem zw544 : (Jvm.Cond.methodLink "SchemaSubjects" (205 : Nat) ({ cls := "SchemaSubjects", name := "canReadSchema", desc := "(LSchemaSubjects$Schema;LSchemaSubjects$Schema;I)Z" } : Jvm.MethodName)) ∈ zG := z_g 544 (by decide +kernel) (by decide +kernel)
theorem zw552 : (Jvm.Cond.methodLink "SchemaSubjects" (151 : Nat) ({ cls := "SchemaSubjects$Subject", name := "lowestLike", desc := "(LSchemaSubjects$Schema;)I" } : Jvm.MethodName)) ∈ zG := z_g 552 (by decide +kernel) (by decide +kernel)
theorem zw553 : (Jvm.Cond.instanceMethod ({ cls := "SchemaSubjects$Subject", name := "lowestLike", desc := "(LSchemaSubjects$Schema;)I" } : Jvm.MethodName)) ∈ zG := z_g 553 (by decide +kernel) (by decide +kernel)
theorem zw554 : (Jvm.Cond.selects "SchemaSubjects$Subject" ({ cls := "SchemaSubjects$Subject", name := "lowestLike", desc := "(LSchemaSubjects$Schema;)I" } : Jvm.MethodName) ({ cls := "SchemaSubjects$Subject", name := "lowestLike", desc := "(LSchemaSubjects$Schema;)I" } : Jvm.MethodName)) ∈ zG := z_g 554 (by decide +kernel) (by decide +kernel)
theorem zw555 : (Jvm.Cond.code ({ cls := "SchemaSubjects$Subject", name := "lowestLike", desc := "(LSchemaSubjects$Schema;)I" } : Jvm.MethodName) prog_5_method_4_code (4 : Nat) (Option.some Jvm.ClassFile.FieldType.int)) ∈ zG := z_g 555 (by decide +kernel) (by decide +kernel)
theorem zw556 : (Jvm.Cond.methodLink "SchemaSubjects$Subject" (36 : Nat) ({ cls := "SchemaSubjects$Schema", name := "isLike", desc := "(LSchemaSubjects$Schema;)Z" } : Jvm.MethodName)) ∈ zG := z_g 556 (by decide +kernel) (by decide +kernel)
theorem zw557 : (Jvm.Cond.instanceMethod ({ cls := "SchemaSubjects$Schema", name := "isLike", desc := "(LSchemaSubjects$Schema;)Z" } : Jvm.MethodName)) ∈ zG := z_g 557 (by decide +kernel) (by decide +kernel)
theorem zw558 : (Jvm.Cond.selects "SchemaSubjects$Schema" ({ cls := "SchemaSubjects$Schema", name := "isLike", desc := "(LSchemaSubjects$Schema;)Z" } : Jvm.MethodName) ({ cls := "SchemaSubjects$Schema", name := "isLike", desc := "(LSchemaSubjects$Schema;)Z" } : Jvm.MethodName)) ∈ zG := z_g 558 (by decide +kernel) (by decide +kernel)
theorem zw559 : (Jvm.Cond.code ({ cls := "SchemaSubjects$Schema", name := "isLike", desc := "(LSchemaSubjects$Schema;)Z" } : Jvm.MethodName) prog_4_method_8_code (3 : Nat) (Option.some Jvm.ClassFile.FieldType.boolean)) ∈ zG := z_g 559 (by decide +kernel) (by decide +kernel)
theorem zw560 : (Jvm.Cond.methodLink "SchemaSubjects$Schema" (85 : Nat) ({ cls := "SchemaSubjects$Field", name := "isLike", desc := "(LSchemaSubjects$Field;)Z" } : Jvm.MethodName)) ∈ zG := z_g 560 (by decide +kernel) (by decide +kernel)
theorem zw561 : (Jvm.Cond.instanceMethod ({ cls := "SchemaSubjects$Field", name := "isLike", desc := "(LSchemaSubjects$Field;)Z" } : Jvm.MethodName)) ∈ zG := z_g 561 (by decide +kernel) (by decide +kernel)
theorem zw562 : (Jvm.Cond.selects "SchemaSubjects$Field" ({ cls := "SchemaSubjects$Field", name := "isLike", desc := "(LSchemaSubjects$Field;)Z" } : Jvm.MethodName) ({ cls := "SchemaSubjects$Field", name := "isLike", desc := "(LSchemaSubjects$Field;)Z" } : Jvm.MethodName)) ∈ zG := z_g 562 (by decide +kernel) (by decide +kernel)
theorem zw563 : (Jvm.Cond.code ({ cls := "SchemaSubjects$Field", name := "isLike", desc := "(LSchemaSubjects$Field;)Z" } : Jvm.MethodName) prog_2_method_3_code (2 : Nat) (Option.some Jvm.ClassFile.FieldType.boolean)) ∈ zG := z_g 563 (by decide +kernel) (by decide +kernel)
theorem zw565 : (Jvm.Cond.classLink "SchemaSubjects" (160 : Nat) "SchemaSubjects$Version") ∈ zG := z_g 565 (by decide +kernel) (by decide +kernel)
theorem zw566 : (Jvm.Cond.instantiable "SchemaSubjects$Version" (2 : Nat)) ∈ zG := z_g 566 (by decide +kernel) (by decide +kernel)
theorem zw567 : (Jvm.Cond.methodLink "SchemaSubjects" (162 : Nat) ({ cls := "SchemaSubjects", name := "takeDraft", desc := "()LSchemaSubjects$Schema;" } : Jvm.MethodName)) ∈ zG := z_g 567 (by decide +kernel) (by decide +kernel)
theorem zw569 : (Jvm.Cond.instanceMethod ({ cls := "SchemaSubjects", name := "takeDraft", desc := "()LSchemaSubjects$Schema;" } : Jvm.MethodName)) ∈ zG := z_g 569 (by decide +kernel) (by decide +kernel)
theorem zw570 : (Jvm.Cond.code ({ cls := "SchemaSubjects", name := "takeDraft", desc := "()LSchemaSubjects$Schema;" } : Jvm.MethodName) prog_1_method_32_code (2 : Nat) (Option.some (Jvm.ClassFile.FieldType.object "SchemaSubjects$Schema"))) ∈ zG := z_g 570 (by decide +kernel) (by decide +kernel)
theorem zw571 : (Jvm.Cond.methodLink "SchemaSubjects" (265 : Nat) ({ cls := "SchemaSubjects$Schema", name := "isLike", desc := "(LSchemaSubjects$Schema;)Z" } : Jvm.MethodName)) ∈ zG := z_g 571 (by decide +kernel) (by decide +kernel)
theorem zw572 : (Jvm.Cond.methodLink "SchemaSubjects" (166 : Nat) ({ cls := "SchemaSubjects$Version", name := "<init>", desc := "(LSchemaSubjects$Schema;)V" } : Jvm.MethodName)) ∈ zG := z_g 572 (by decide +kernel) (by decide +kernel)
theorem zw573 : (Jvm.Cond.instanceMethod ({ cls := "SchemaSubjects$Version", name := "<init>", desc := "(LSchemaSubjects$Schema;)V" } : Jvm.MethodName)) ∈ zG := z_g 573 (by decide +kernel) (by decide +kernel)
theorem zw574 : (Jvm.Cond.code ({ cls := "SchemaSubjects$Version", name := "<init>", desc := "(LSchemaSubjects$Schema;)V" } : Jvm.MethodName) prog_6_method_1_code (2 : Nat) (Option.none : Option Jvm.ClassFile.FieldType)) ∈ zG := z_g 574 (by decide +kernel) (by decide +kernel)
theorem zw575 : (Jvm.Cond.methodLink "SchemaSubjects$Version" (3 : Nat) ({ cls := "java/lang/Object", name := "<init>", desc := "()V" } : Jvm.MethodName)) ∈ zG := z_g 575 (by decide +kernel) (by decide +kernel)
theorem zw576 : (Jvm.Cond.fieldLink "SchemaSubjects$Version" (9 : Nat) "SchemaSubjects$Version" "schema" "LSchemaSubjects$Schema;") ∈ zG := z_g 576 (by decide +kernel) (by decide +kernel)
theorem zw577 : (Jvm.Cond.fieldLink "SchemaSubjects$Subject" (32 : Nat) "SchemaSubjects$Version" "schema" "LSchemaSubjects$Schema;") ∈ zG := z_g 577 (by decide +kernel) (by decide +kernel)
theorem zw578 : (Jvm.Cond.fieldLink "SchemaSubjects" (252 : Nat) "SchemaSubjects$Version" "schema" "LSchemaSubjects$Schema;") ∈ zG := z_g 578 (by decide +kernel) (by decide +kernel)
theorem zw579 : (Jvm.Cond.fieldLink "SchemaSubjects$Version" (15 : Nat) "SchemaSubjects$Version" "state" "I") ∈ zG := z_g 579 (by decide +kernel) (by decide +kernel)
theorem zw580 : (Jvm.Cond.fieldLink "SchemaSubjects$Subject" (28 : Nat) "SchemaSubjects$Version" "state" "I") ∈ zG := z_g 580 (by decide +kernel) (by decide +kernel)
theorem zw581 : (Jvm.Cond.fieldLink "SchemaSubjects" (181 : Nat) "SchemaSubjects$Version" "state" "I") ∈ zG := z_g 581 (by decide +kernel) (by decide +kernel)
theorem zw602 : (Jvm.Cond.methodLink "SchemaSubjects" (177 : Nat) ({ cls := "SchemaSubjects", name := "demandedVersion", desc := "(LSchemaSubjects$Subject;I)LSchemaSubjects$Version;" } : Jvm.MethodName)) ∈ zG := z_g 602 (by decide +kernel) (by decide +kernel)
theorem zw603 : (Jvm.Cond.static ({ cls := "SchemaSubjects", name := "demandedVersion", desc := "(LSchemaSubjects$Subject;I)LSchemaSubjects$Version;" } : Jvm.MethodName)) ∈ zG := z_g 603 (by decide +kernel) (by decide +kernel)
theorem zw604 : (Jvm.Cond.code ({ cls := "SchemaSubjects", name := "demandedVersion", desc := "(LSchemaSubjects$Subject;I)LSchemaSubjects$Version;" } : Jvm.MethodName) prog_1_method_22_code (3 : Nat) (Option.some (Jvm.ClassFile.FieldType.object "SchemaSubjects$Version"))) ∈ zG := z_g 604 (by decide +kernel) (by decide +kernel)
theorem zw606 : (Jvm.Cond.methodLink "SchemaSubjects" (184 : Nat) ({ cls := "SchemaSubjects", name := "isReferredTo", desc := "(I)Z" } : Jvm.MethodName)) ∈ zG := z_g 606 (by decide +kernel) (by decide +kernel)
theorem zw608 : (Jvm.Cond.instanceMethod ({ cls := "SchemaSubjects", name := "isReferredTo", desc := "(I)Z" } : Jvm.MethodName)) ∈ zG := z_g 608 (by decide +kernel) (by decide +kernel)
theorem zw609 : (Jvm.Cond.code ({ cls := "SchemaSubjects", name := "isReferredTo", desc := "(I)Z" } : Jvm.MethodName) prog_1_method_31_code (3 : Nat) (Option.some Jvm.ClassFile.FieldType.boolean)) ∈ zG := z_g 609 (by decide +kernel) (by decide +kernel)
theorem zw610 : (Jvm.Cond.methodLink "SchemaSubjects" (261 : Nat) ({ cls := "SchemaSubjects$Schema", name := "refersTo", desc := "(I)Z" } : Jvm.MethodName)) ∈ zG := z_g 610 (by decide +kernel) (by decide +kernel)
theorem zw611 : (Jvm.Cond.instanceMethod ({ cls := "SchemaSubjects$Schema", name := "refersTo", desc := "(I)Z" } : Jvm.MethodName)) ∈ zG := z_g 611 (by decide +kernel) (by decide +kernel)
theorem zw612 : (Jvm.Cond.selects "SchemaSubjects$Schema" ({ cls := "SchemaSubjects$Schema", name := "refersTo", desc := "(I)Z" } : Jvm.MethodName) ({ cls := "SchemaSubjects$Schema", name := "refersTo", desc := "(I)Z" } : Jvm.MethodName)) ∈ zG := z_g 612 (by decide +kernel) (by decide +kernel)
theorem zw613 : (Jvm.Cond.code ({ cls := "SchemaSubjects$Schema", name := "refersTo", desc := "(I)Z" } : Jvm.MethodName) prog_4_method_7_code (3 : Nat) (Option.some Jvm.ClassFile.FieldType.boolean)) ∈ zG := z_g 613 (by decide +kernel) (by decide +kernel)
theorem zw614 : (Jvm.Cond.methodLink "SchemaSubjects" (264 : Nat) ({ cls := "SchemaSubjects$Subject", name := "refersTo", desc := "(I)Z" } : Jvm.MethodName)) ∈ zG := z_g 614 (by decide +kernel) (by decide +kernel)
theorem zw615 : (Jvm.Cond.instanceMethod ({ cls := "SchemaSubjects$Subject", name := "refersTo", desc := "(I)Z" } : Jvm.MethodName)) ∈ zG := z_g 615 (by decide +kernel) (by decide +kernel)
theorem zw616 : (Jvm.Cond.selects "SchemaSubjects$Subject" ({ cls := "SchemaSubjects$Subject", name := "refersTo", desc := "(I)Z" } : Jvm.MethodName) ({ cls := "SchemaSubjects$Subject", name := "refersTo", desc := "(I)Z" } : Jvm.MethodName)) ∈ zG := z_g 616 (by decide +kernel) (by decide +kernel)
theorem zw617 : (Jvm.Cond.code ({ cls := "SchemaSubjects$Subject", name := "refersTo", desc := "(I)Z" } : Jvm.MethodName) prog_5_method_5_code (4 : Nat) (Option.some Jvm.ClassFile.FieldType.boolean)) ∈ zG := z_g 617 (by decide +kernel) (by decide +kernel)
theorem zw618 : (Jvm.Cond.methodLink "SchemaSubjects$Subject" (42 : Nat) ({ cls := "SchemaSubjects$Schema", name := "refersTo", desc := "(I)Z" } : Jvm.MethodName)) ∈ zG := z_g 618 (by decide +kernel) (by decide +kernel)
theorem zw621 : (Jvm.Cond.methodLink "SchemaSubjects" (191 : Nat) ({ cls := "SchemaSubjects$Subject", name := "countThere", desc := "()I" } : Jvm.MethodName)) ∈ zG := z_g 621 (by decide +kernel) (by decide +kernel)
theorem zw622 : (Jvm.Cond.instanceMethod ({ cls := "SchemaSubjects$Subject", name := "countThere", desc := "()I" } : Jvm.MethodName)) ∈ zG := z_g 622 (by decide +kernel) (by decide +kernel)
theorem zw623 : (Jvm.Cond.selects "SchemaSubjects$Subject" ({ cls := "SchemaSubjects$Subject", name := "countThere", desc := "()I" } : Jvm.MethodName) ({ cls := "SchemaSubjects$Subject", name := "countThere", desc := "()I" } : Jvm.MethodName)) ∈ zG := z_g 623 (by decide +kernel) (by decide +kernel)
theorem zw624 : (Jvm.Cond.code ({ cls := "SchemaSubjects$Subject", name := "countThere", desc := "()I" } : Jvm.MethodName) prog_5_method_3_code (3 : Nat) (Option.some Jvm.ClassFile.FieldType.int)) ∈ zG := z_g 624 (by decide +kernel) (by decide +kernel)
theorem zw639 : (Jvm.Cond.methodLink "SchemaSubjects" (194 : Nat) ({ cls := "SchemaSubjects", name := "demandedSchema", desc := "(II)LSchemaSubjects$Schema;" } : Jvm.MethodName)) ∈ zG := z_g 639 (by decide +kernel) (by decide +kernel)
theorem zw641 : (Jvm.Cond.instanceMethod ({ cls := "SchemaSubjects", name := "demandedSchema", desc := "(II)LSchemaSubjects$Schema;" } : Jvm.MethodName)) ∈ zG := z_g 641 (by decide +kernel) (by decide +kernel)
theorem zw642 : (Jvm.Cond.code ({ cls := "SchemaSubjects", name := "demandedSchema", desc := "(II)LSchemaSubjects$Schema;" } : Jvm.MethodName) prog_1_method_23_code (3 : Nat) (Option.some (Jvm.ClassFile.FieldType.object "SchemaSubjects$Schema"))) ∈ zG := z_g 642 (by decide +kernel) (by decide +kernel)
theorem zw664 : (Jvm.Cond.methodLink "SchemaSubjects" (201 : Nat) ({ cls := "SchemaSubjects", name := "demandSubjects", desc := "(II)V" } : Jvm.MethodName)) ∈ zG := z_g 664 (by decide +kernel) (by decide +kernel)
theorem zw666 : (Jvm.Cond.instanceMethod ({ cls := "SchemaSubjects", name := "demandSubjects", desc := "(II)V" } : Jvm.MethodName)) ∈ zG := z_g 666 (by decide +kernel) (by decide +kernel)
theorem zw667 : (Jvm.Cond.code ({ cls := "SchemaSubjects", name := "demandSubjects", desc := "(II)V" } : Jvm.MethodName) prog_1_method_21_code (3 : Nat) (Option.none : Option Jvm.ClassFile.FieldType)) ∈ zG := z_g 667 (by decide +kernel) (by decide +kernel)
theorem zw675 : (Jvm.Cond.methodLink "SchemaSubjects" (209 : Nat) ({ cls := "SchemaSubjects", name := "countSmallRecords", desc := "(LSchemaSubjects$Row;)I" } : Jvm.MethodName)) ∈ zG := z_g 675 (by decide +kernel) (by decide +kernel)
theorem zw676 : (Jvm.Cond.static ({ cls := "SchemaSubjects", name := "countSmallRecords", desc := "(LSchemaSubjects$Row;)I" } : Jvm.MethodName)) ∈ zG := z_g 676 (by decide +kernel) (by decide +kernel)
theorem zw677 : (Jvm.Cond.code ({ cls := "SchemaSubjects", name := "countSmallRecords", desc := "(LSchemaSubjects$Row;)I" } : Jvm.MethodName) prog_1_method_39_code (3 : Nat) (Option.some Jvm.ClassFile.FieldType.int)) ∈ zG := z_g 677 (by decide +kernel) (by decide +kernel)
theorem zw678 : (Jvm.Cond.methodLink "SchemaSubjects" (236 : Nat) ({ cls := "SchemaSubjects$Row", name := "at", desc := "(I)I" } : Jvm.MethodName)) ∈ zG := z_g 678 (by decide +kernel) (by decide +kernel)
theorem zw680 : (Jvm.Cond.methodLink "SchemaSubjects" (215 : Nat) ({ cls := "SchemaSubjects", name := "putSmallRecord", desc := "(LSchemaSubjects$Row;LSchemaSubjects$Row;I)V" } : Jvm.MethodName)) ∈ zG := z_g 680 (by decide +kernel) (by decide +kernel)
theorem zw681 : (Jvm.Cond.static ({ cls := "SchemaSubjects", name := "putSmallRecord", desc := "(LSchemaSubjects$Row;LSchemaSubjects$Row;I)V" } : Jvm.MethodName)) ∈ zG := z_g 681 (by decide +kernel) (by decide +kernel)
theorem zw682 : (Jvm.Cond.code ({ cls := "SchemaSubjects", name := "putSmallRecord", desc := "(LSchemaSubjects$Row;LSchemaSubjects$Row;I)V" } : Jvm.MethodName) prog_1_method_40_code (6 : Nat) (Option.none : Option Jvm.ClassFile.FieldType)) ∈ zG := z_g 682 (by decide +kernel) (by decide +kernel)
theorem zw683 : (Jvm.Cond.methodLink "SchemaSubjects" (226 : Nat) ({ cls := "SchemaSubjects$Row", name := "add", desc := "(I)V" } : Jvm.MethodName)) ∈ zG := z_g 683 (by decide +kernel) (by decide +kernel)
theorem zw684 : (Jvm.Cond.methodLink "SchemaSubjects" (220 : Nat) ({ cls := "SchemaSubjects", name := "readSchema", desc := "(LSchemaSubjects$Schema;LSchemaSubjects$Schema;LSchemaSubjects$Row;ILSchemaSubjects$Row;I)Z" } : Jvm.MethodName)) ∈ zG := z_g 684 (by decide +kernel) (by decide +kernel)
theorem zw685 : (Jvm.Cond.static ({ cls := "SchemaSubjects", name := "readSchema", desc := "(LSchemaSubjects$Schema;LSchemaSubjects$Schema;LSchemaSubjects$Row;ILSchemaSubjects$Row;I)Z" } : Jvm.MethodName)) ∈ zG := z_g 685 (by decide +kernel) (by decide +kernel)
theorem zw686 : (Jvm.Cond.code ({ cls := "SchemaSubjects", name := "readSchema", desc := "(LSchemaSubjects$Schema;LSchemaSubjects$Schema;LSchemaSubjects$Row;ILSchemaSubjects$Row;I)Z" } : Jvm.MethodName) prog_1_method_36_code (7 : Nat) (Option.some Jvm.ClassFile.FieldType.boolean)) ∈ zG := z_g 686 (by decide +kernel) (by decide +kernel)
theorem zw687 : (Jvm.Cond.methodLink "SchemaSubjects" (282 : Nat) ({ cls := "SchemaSubjects", name := "readField", desc := "(LSchemaSubjects$Field;LSchemaSubjects$Schema;LSchemaSubjects$Row;ILSchemaSubjects$Row;I)Z" } : Jvm.MethodName)) ∈ zG := z_g 687 (by decide +kernel) (by decide +kernel)
theorem zw688 : (Jvm.Cond.static ({ cls := "SchemaSubjects", name := "readField", desc := "(LSchemaSubjects$Field;LSchemaSubjects$Schema;LSchemaSubjects$Row;ILSchemaSubjects$Row;I)Z" } : Jvm.MethodName)) ∈ zG := z_g 688 (by decide +kernel) (by decide +kernel)
theorem zw689 : (Jvm.Cond.code ({ cls := "SchemaSubjects", name := "readField", desc := "(LSchemaSubjects$Field;LSchemaSubjects$Schema;LSchemaSubjects$Row;ILSchemaSubjects$Row;I)Z" } : Jvm.MethodName) prog_1_method_37_code (9 : Nat) (Option.some Jvm.ClassFile.FieldType.boolean)) ∈ zG := z_g 689 (by decide +kernel) (by decide +kernel)
theorem zw690 : (Jvm.Cond.methodLink "SchemaSubjects" (286 : Nat) ({ cls := "SchemaSubjects", name := "readDefault", desc := "(LSchemaSubjects$Field;LSchemaSubjects$Row;)Z" } : Jvm.MethodName)) ∈ zG := z_g 690 (by decide +kernel) (by decide +kernel)
theorem zw691 : (Jvm.Cond.static ({ cls := "SchemaSubjects", name := "readDefault", desc := "(LSchemaSubjects$Field;LSchemaSubjects$Row;)Z" } : Jvm.MethodName)) ∈ zG := z_g 691 (by decide +kernel) (by decide +kernel)
theorem zw692 : (Jvm.Cond.code ({ cls := "SchemaSubjects", name := "readDefault", desc := "(LSchemaSubjects$Field;LSchemaSubjects$Row;)Z" } : Jvm.MethodName) prog_1_method_38_code (2 : Nat) (Option.some Jvm.ClassFile.FieldType.boolean)) ∈ zG := z_g 692 (by decide +kernel) (by decide +kernel)
theorem zw708 : (Jvm.Cond.methodLink "SchemaSubjects" (229 : Nat) ({ cls := "SchemaSubjects", name := "isRecordOf", desc := "(LSchemaSubjects$Schema;)Z" } : Jvm.MethodName)) ∈ zG := z_g 708 (by decide +kernel) (by decide +kernel)
theorem zw710 : (Jvm.Cond.instanceMethod ({ cls := "SchemaSubjects", name := "isRecordOf", desc := "(LSchemaSubjects$Schema;)Z" } : Jvm.MethodName)) ∈ zG := z_g 710 (by decide +kernel) (by decide +kernel)
theorem zw711 : (Jvm.Cond.code ({ cls := "SchemaSubjects", name := "isRecordOf", desc := "(LSchemaSubjects$Schema;)Z" } : Jvm.MethodName) prog_1_method_35_code (3 : Nat) (Option.some Jvm.ClassFile.FieldType.boolean)) ∈ zG := z_g 711 (by decide +kernel) (by decide +kernel)
theorem zw733 : (Jvm.Cond.methodLink "SchemaSubjectsModel" (1 : Nat) ({ cls := "java/lang/Object", name := "<init>", desc := "()V" } : Jvm.MethodName)) ∈ zG := z_g 733 (by decide +kernel) (by decide +kernel)
theorem zw734 : (Jvm.Cond.fieldLink "SchemaSubjectsModel" (71 : Nat) "SchemaSubjectsModel" "thrown" "I") ∈ zG := z_g 734 (by decide +kernel) (by decide +kernel)
theorem zw735 : (Jvm.Cond.fieldLink "SchemaSubjectsModel" (7 : Nat) "SchemaSubjectsModel" "names" "[I") ∈ zG := z_g 735 (by decide +kernel) (by decide +kernel)
theorem zw736 : (Jvm.Cond.fieldLink "SchemaSubjectsModel" (13 : Nat) "SchemaSubjectsModel" "types" "[I") ∈ zG := z_g 736 (by decide +kernel) (by decide +kernel)
theorem zw737 : (Jvm.Cond.fieldLink "SchemaSubjectsModel" (16 : Nat) "SchemaSubjectsModel" "details" "[I") ∈ zG := z_g 737 (by decide +kernel) (by decide +kernel)
theorem zw738 : (Jvm.Cond.fieldLink "SchemaSubjectsModel" (19 : Nat) "SchemaSubjectsModel" "aliases" "[I") ∈ zG := z_g 738 (by decide +kernel) (by decide +kernel)
theorem zw739 : (Jvm.Cond.fieldLink "SchemaSubjectsModel" (22 : Nat) "SchemaSubjectsModel" "haveDefaults" "[Z") ∈ zG := z_g 739 (by decide +kernel) (by decide +kernel)
theorem zw740 : (Jvm.Cond.fieldLink "SchemaSubjectsModel" (26 : Nat) "SchemaSubjectsModel" "defaults" "[I") ∈ zG := z_g 740 (by decide +kernel) (by decide +kernel)
theorem zw741 : (Jvm.Cond.fieldLink "SchemaSubjectsModel" (29 : Nat) "SchemaSubjectsModel" "sizes" "[I") ∈ zG := z_g 741 (by decide +kernel) (by decide +kernel)
theorem zw742 : (Jvm.Cond.fieldLink "SchemaSubjectsModel" (32 : Nat) "SchemaSubjectsModel" "lengths" "[I") ∈ zG := z_g 742 (by decide +kernel) (by decide +kernel)
theorem zw743 : (Jvm.Cond.fieldLink "SchemaSubjectsModel" (118 : Nat) "SchemaSubjectsModel" "schemas" "I") ∈ zG := z_g 743 (by decide +kernel) (by decide +kernel)
theorem zw744 : (Jvm.Cond.fieldLink "SchemaSubjectsModel" (35 : Nat) "SchemaSubjectsModel" "can" "[Z") ∈ zG := z_g 744 (by decide +kernel) (by decide +kernel)
theorem zw745 : (Jvm.Cond.fieldLink "SchemaSubjectsModel" (38 : Nat) "SchemaSubjectsModel" "numbers" "[I") ∈ zG := z_g 745 (by decide +kernel) (by decide +kernel)
theorem zw746 : (Jvm.Cond.fieldLink "SchemaSubjectsModel" (41 : Nat) "SchemaSubjectsModel" "states" "[I") ∈ zG := z_g 746 (by decide +kernel) (by decide +kernel)
theorem zw747 : (Jvm.Cond.fieldLink "SchemaSubjectsModel" (44 : Nat) "SchemaSubjectsModel" "counts" "[I") ∈ zG := z_g 747 (by decide +kernel) (by decide +kernel)
theorem zw748 : (Jvm.Cond.fieldLink "SchemaSubjectsModel" (47 : Nat) "SchemaSubjectsModel" "modes" "[I") ∈ zG := z_g 748 (by decide +kernel) (by decide +kernel)
theorem zw749 : (Jvm.Cond.fieldLink "SchemaSubjectsModel" (50 : Nat) "SchemaSubjectsModel" "areAll" "[Z") ∈ zG := z_g 749 (by decide +kernel) (by decide +kernel)
theorem zw750 : (Jvm.Cond.fieldLink "SchemaSubjectsModel" (168 : Nat) "SchemaSubjectsModel" "filled" "I") ∈ zG := z_g 750 (by decide +kernel) (by decide +kernel)
theorem zw751 : (Jvm.Cond.fieldLink "SchemaSubjectsModel" (53 : Nat) "SchemaSubjectsModel" "record" "[I") ∈ zG := z_g 751 (by decide +kernel) (by decide +kernel)
theorem zw752 : (Jvm.Cond.fieldLink "SchemaSubjectsModel" (56 : Nat) "SchemaSubjectsModel" "done" "[I") ∈ zG := z_g 752 (by decide +kernel) (by decide +kernel)
theorem zw753 : (Jvm.Cond.fieldLink "SchemaSubjectsModel" (59 : Nat) "SchemaSubjectsModel" "readers" "[I") ∈ zG := z_g 753 (by decide +kernel) (by decide +kernel)
theorem zw754 : (Jvm.Cond.fieldLink "SchemaSubjectsModel" (62 : Nat) "SchemaSubjectsModel" "writers" "[I") ∈ zG := z_g 754 (by decide +kernel) (by decide +kernel)
theorem zw755 : (Jvm.Cond.fieldLink "SchemaSubjectsModel" (65 : Nat) "SchemaSubjectsModel" "nexts" "[I") ∈ zG := z_g 755 (by decide +kernel) (by decide +kernel)
theorem zw756 : (Jvm.Cond.fieldLink "SchemaSubjectsModel" (68 : Nat) "SchemaSubjectsModel" "begins" "[I") ∈ zG := z_g 756 (by decide +kernel) (by decide +kernel)
theorem zw804 : (Jvm.Cond.arrayClass Jvm.ClassFile.FieldType.boolean) ∈ zG := z_g 804 (by decide +kernel) (by decide +kernel)
theorem zw813 : (Jvm.Cond.methodLink "SchemaSubjectsModel" (98 : Nat) ({ cls := "SchemaSubjectsModel", name := "errorOfField", desc := "(IIII)I" } : Jvm.MethodName)) ∈ zG := z_g 813 (by decide +kernel) (by decide +kernel)
theorem zw815 : (Jvm.Cond.instanceMethod ({ cls := "SchemaSubjectsModel", name := "errorOfField", desc := "(IIII)I" } : Jvm.MethodName)) ∈ zG := z_g 815 (by decide +kernel) (by decide +kernel)
theorem zw816 : (Jvm.Cond.code ({ cls := "SchemaSubjectsModel", name := "errorOfField", desc := "(IIII)I" } : Jvm.MethodName) prog_8_method_11_code (7 : Nat) (Option.some Jvm.ClassFile.FieldType.int)) ∈ zG := z_g 816 (by decide +kernel) (by decide +kernel)
theorem zw817 : (Jvm.Cond.methodLink "SchemaSubjectsModel" (83 : Nat) ({ cls := "SchemaSubjectsModel", name := "isRange", desc := "(IIII)Z" } : Jvm.MethodName)) ∈ zG := z_g 817 (by decide +kernel) (by decide +kernel)
theorem zw819 : (Jvm.Cond.instanceMethod ({ cls := "SchemaSubjectsModel", name := "isRange", desc := "(IIII)Z" } : Jvm.MethodName)) ∈ zG := z_g 819 (by decide +kernel) (by decide +kernel)
theorem zw820 : (Jvm.Cond.code ({ cls := "SchemaSubjectsModel", name := "isRange", desc := "(IIII)Z" } : Jvm.MethodName) prog_8_method_9_code (6 : Nat) (Option.some Jvm.ClassFile.FieldType.boolean)) ∈ zG := z_g 820 (by decide +kernel) (by decide +kernel)
theorem zw821 : (Jvm.Cond.methodLink "SchemaSubjectsModel" (75 : Nat) ({ cls := "SchemaSubjectsModel", name := "in", desc := "(III)Z" } : Jvm.MethodName)) ∈ zG := z_g 821 (by decide +kernel) (by decide +kernel)
theorem zw822 : (Jvm.Cond.static ({ cls := "SchemaSubjectsModel", name := "in", desc := "(III)Z" } : Jvm.MethodName)) ∈ zG := z_g 822 (by decide +kernel) (by decide +kernel)
theorem zw823 : (Jvm.Cond.code ({ cls := "SchemaSubjectsModel", name := "in", desc := "(III)Z" } : Jvm.MethodName) prog_8_method_4_code (3 : Nat) (Option.some Jvm.ClassFile.FieldType.boolean)) ∈ zG := z_g 823 (by decide +kernel) (by decide +kernel)
theorem zw824 : (Jvm.Cond.methodLink "SchemaSubjectsModel" (87 : Nat) ({ cls := "SchemaSubjectsModel", name := "isThereAt", desc := "(II)Z" } : Jvm.MethodName)) ∈ zG := z_g 824 (by decide +kernel) (by decide +kernel)
theorem zw826 : (Jvm.Cond.instanceMethod ({ cls := "SchemaSubjectsModel", name := "isThereAt", desc := "(II)Z" } : Jvm.MethodName)) ∈ zG := z_g 826 (by decide +kernel) (by decide +kernel)
theorem zw827 : (Jvm.Cond.code ({ cls := "SchemaSubjectsModel", name := "isThereAt", desc := "(II)Z" } : Jvm.MethodName) prog_8_method_7_code (3 : Nat) (Option.some Jvm.ClassFile.FieldType.boolean)) ∈ zG := z_g 827 (by decide +kernel) (by decide +kernel)
theorem zw828 : (Jvm.Cond.methodLink "SchemaSubjectsModel" (79 : Nat) ({ cls := "SchemaSubjectsModel", name := "isVersion", desc := "(II)Z" } : Jvm.MethodName)) ∈ zG := z_g 828 (by decide +kernel) (by decide +kernel)
theorem zw830 : (Jvm.Cond.instanceMethod ({ cls := "SchemaSubjectsModel", name := "isVersion", desc := "(II)Z" } : Jvm.MethodName)) ∈ zG := z_g 830 (by decide +kernel) (by decide +kernel)
theorem zw831 : (Jvm.Cond.code ({ cls := "SchemaSubjectsModel", name := "isVersion", desc := "(II)Z" } : Jvm.MethodName) prog_8_method_6_code (3 : Nat) (Option.some Jvm.ClassFile.FieldType.boolean)) ∈ zG := z_g 831 (by decide +kernel) (by decide +kernel)
theorem zw832 : (Jvm.Cond.methodLink "SchemaSubjectsModel" (90 : Nat) ({ cls := "SchemaSubjectsModel", name := "schemaOf", desc := "(I)I" } : Jvm.MethodName)) ∈ zG := z_g 832 (by decide +kernel) (by decide +kernel)
theorem zw834 : (Jvm.Cond.instanceMethod ({ cls := "SchemaSubjectsModel", name := "schemaOf", desc := "(I)I" } : Jvm.MethodName)) ∈ zG := z_g 834 (by decide +kernel) (by decide +kernel)
theorem zw835 : (Jvm.Cond.code ({ cls := "SchemaSubjectsModel", name := "schemaOf", desc := "(I)I" } : Jvm.MethodName) prog_8_method_8_code (2 : Nat) (Option.some Jvm.ClassFile.FieldType.int)) ∈ zG := z_g 835 (by decide +kernel) (by decide +kernel)
theorem zw836 : (Jvm.Cond.methodLink "SchemaSubjectsModel" (94 : Nat) ({ cls := "SchemaSubjectsModel", name := "named", desc := "(II)I" } : Jvm.MethodName)) ∈ zG := z_g 836 (by decide +kernel) (by decide +kernel)
theorem zw838 : (Jvm.Cond.instanceMethod ({ cls := "SchemaSubjectsModel", name := "named", desc := "(II)I" } : Jvm.MethodName)) ∈ zG := z_g 838 (by decide +kernel) (by decide +kernel)
theorem zw839 : (Jvm.Cond.code ({ cls := "SchemaSubjectsModel", name := "named", desc := "(II)I" } : Jvm.MethodName) prog_8_method_10_code (4 : Nat) (Option.some Jvm.ClassFile.FieldType.int)) ∈ zG := z_g 839 (by decide +kernel) (by decide +kernel)
theorem zw840 : (Jvm.Cond.methodLink "SchemaSubjectsModel" (102 : Nat) ({ cls := "SchemaSubjectsModel", name := "holds", desc := "(I)Z" } : Jvm.MethodName)) ∈ zG := z_g 840 (by decide +kernel) (by decide +kernel)
theorem zw842 : (Jvm.Cond.instanceMethod ({ cls := "SchemaSubjectsModel", name := "holds", desc := "(I)Z" } : Jvm.MethodName)) ∈ zG := z_g 842 (by decide +kernel) (by decide +kernel)
theorem zw843 : (Jvm.Cond.code ({ cls := "SchemaSubjectsModel", name := "holds", desc := "(I)Z" } : Jvm.MethodName) prog_8_method_3_code (2 : Nat) (Option.some Jvm.ClassFile.FieldType.boolean)) ∈ zG := z_g 843 (by decide +kernel) (by decide +kernel)
theorem zw848 : (Jvm.Cond.methodLink "SchemaSubjectsModel" (106 : Nat) ({ cls := "SchemaSubjectsModel", name := "isValue", desc := "(II)Z" } : Jvm.MethodName)) ∈ zG := z_g 848 (by decide +kernel) (by decide +kernel)
theorem zw850 : (Jvm.Cond.instanceMethod ({ cls := "SchemaSubjectsModel", name := "isValue", desc := "(II)Z" } : Jvm.MethodName)) ∈ zG := z_g 850 (by decide +kernel) (by decide +kernel)
theorem zw851 : (Jvm.Cond.code ({ cls := "SchemaSubjectsModel", name := "isValue", desc := "(II)Z" } : Jvm.MethodName) prog_8_method_13_code (4 : Nat) (Option.some Jvm.ClassFile.FieldType.boolean)) ∈ zG := z_g 851 (by decide +kernel) (by decide +kernel)
theorem zw856 : (Jvm.Cond.methodLink "SchemaSubjectsModel" (109 : Nat) ({ cls := "SchemaSubjectsModel", name := "empties", desc := "()V" } : Jvm.MethodName)) ∈ zG := z_g 856 (by decide +kernel) (by decide +kernel)
theorem zw858 : (Jvm.Cond.instanceMethod ({ cls := "SchemaSubjectsModel", name := "empties", desc := "()V" } : Jvm.MethodName)) ∈ zG := z_g 858 (by decide +kernel) (by decide +kernel)
theorem zw859 : (Jvm.Cond.code ({ cls := "SchemaSubjectsModel", name := "empties", desc := "()V" } : Jvm.MethodName) prog_8_method_15_code (1 : Nat) (Option.none : Option Jvm.ClassFile.FieldType)) ∈ zG := z_g 859 (by decide +kernel) (by decide +kernel)
theorem zw864 : (Jvm.Cond.methodLink "SchemaSubjectsModel" (127 : Nat) ({ cls := "SchemaSubjectsModel", name := "isSubject", desc := "(I)Z" } : Jvm.MethodName)) ∈ zG := z_g 864 (by decide +kernel) (by decide +kernel)
theorem zw865 : (Jvm.Cond.static ({ cls := "SchemaSubjectsModel", name := "isSubject", desc := "(I)Z" } : Jvm.MethodName)) ∈ zG := z_g 865 (by decide +kernel) (by decide +kernel)
theorem zw866 : (Jvm.Cond.code ({ cls := "SchemaSubjectsModel", name := "isSubject", desc := "(I)Z" } : Jvm.MethodName) prog_8_method_5_code (1 : Nat) (Option.some Jvm.ClassFile.FieldType.boolean)) ∈ zG := z_g 866 (by decide +kernel) (by decide +kernel)
theorem zw867 : (Jvm.Cond.methodLink "SchemaSubjectsModel" (130 : Nat) ({ cls := "SchemaSubjectsModel", name := "isAcceptedBy", desc := "(I)Z" } : Jvm.MethodName)) ∈ zG := z_g 867 (by decide +kernel) (by decide +kernel)
theorem zw869 : (Jvm.Cond.instanceMethod ({ cls := "SchemaSubjectsModel", name := "isAcceptedBy", desc := "(I)Z" } : Jvm.MethodName)) ∈ zG := z_g 869 (by decide +kernel) (by decide +kernel)
theorem zw870 : (Jvm.Cond.code ({ cls := "SchemaSubjectsModel", name := "isAcceptedBy", desc := "(I)Z" } : Jvm.MethodName) prog_8_method_22_code (6 : Nat) (Option.some Jvm.ClassFile.FieldType.boolean)) ∈ zG := z_g 870 (by decide +kernel) (by decide +kernel)
theorem zw871 : (Jvm.Cond.methodLink "SchemaSubjectsModel" (124 : Nat) ({ cls := "SchemaSubjectsModel", name := "tells", desc := "()V" } : Jvm.MethodName)) ∈ zG := z_g 871 (by decide +kernel) (by decide +kernel)
theorem zw873 : (Jvm.Cond.instanceMethod ({ cls := "SchemaSubjectsModel", name := "tells", desc := "()V" } : Jvm.MethodName)) ∈ zG := z_g 873 (by decide +kernel) (by decide +kernel)
theorem zw874 : (Jvm.Cond.code ({ cls := "SchemaSubjectsModel", name := "tells", desc := "()V" } : Jvm.MethodName) prog_8_method_21_code (5 : Nat) (Option.none : Option Jvm.ClassFile.FieldType)) ∈ zG := z_g 874 (by decide +kernel) (by decide +kernel)
theorem zw875 : (Jvm.Cond.methodLink "SchemaSubjectsModel" (121 : Nat) ({ cls := "SchemaSubjectsModel", name := "canReadNow", desc := "(II)Z" } : Jvm.MethodName)) ∈ zG := z_g 875 (by decide +kernel) (by decide +kernel)
theorem zw877 : (Jvm.Cond.instanceMethod ({ cls := "SchemaSubjectsModel", name := "canReadNow", desc := "(II)Z" } : Jvm.MethodName)) ∈ zG := z_g 877 (by decide +kernel) (by decide +kernel)
theorem zw878 : (Jvm.Cond.code ({ cls := "SchemaSubjectsModel", name := "canReadNow", desc := "(II)Z" } : Jvm.MethodName) prog_8_method_20_code (6 : Nat) (Option.some Jvm.ClassFile.FieldType.boolean)) ∈ zG := z_g 878 (by decide +kernel) (by decide +kernel)
theorem zw879 : (Jvm.Cond.methodLink "SchemaSubjectsModel" (112 : Nat) ({ cls := "SchemaSubjectsModel", name := "source", desc := "(II)I" } : Jvm.MethodName)) ∈ zG := z_g 879 (by decide +kernel) (by decide +kernel)
theorem zw881 : (Jvm.Cond.instanceMethod ({ cls := "SchemaSubjectsModel", name := "source", desc := "(II)I" } : Jvm.MethodName)) ∈ zG := z_g 881 (by decide +kernel) (by decide +kernel)
theorem zw882 : (Jvm.Cond.code ({ cls := "SchemaSubjectsModel", name := "source", desc := "(II)I" } : Jvm.MethodName) prog_8_method_18_code (4 : Nat) (Option.some Jvm.ClassFile.FieldType.int)) ∈ zG := z_g 882 (by decide +kernel) (by decide +kernel)
theorem zw883 : (Jvm.Cond.methodLink "SchemaSubjectsModel" (115 : Nat) ({ cls := "SchemaSubjectsModel", name := "isRead", desc := "(II)Z" } : Jvm.MethodName)) ∈ zG := z_g 883 (by decide +kernel) (by decide +kernel)
theorem zw885 : (Jvm.Cond.instanceMethod ({ cls := "SchemaSubjectsModel", name := "isRead", desc := "(II)Z" } : Jvm.MethodName)) ∈ zG := z_g 885 (by decide +kernel) (by decide +kernel)
theorem zw886 : (Jvm.Cond.code ({ cls := "SchemaSubjectsModel", name := "isRead", desc := "(II)Z" } : Jvm.MethodName) prog_8_method_19_code (5 : Nat) (Option.some Jvm.ClassFile.FieldType.boolean)) ∈ zG := z_g 886 (by decide +kernel) (by decide +kernel)
theorem zw891 : (Jvm.Cond.methodLink "SchemaSubjectsModel" (139 : Nat) ({ cls := "SchemaSubjectsModel", name := "errorOfRegister", desc := "(I)I" } : Jvm.MethodName)) ∈ zG := z_g 891 (by decide +kernel) (by decide +kernel)
theorem zw893 : (Jvm.Cond.instanceMethod ({ cls := "SchemaSubjectsModel", name := "errorOfRegister", desc := "(I)I" } : Jvm.MethodName)) ∈ zG := z_g 893 (by decide +kernel) (by decide +kernel)
theorem zw894 : (Jvm.Cond.code ({ cls := "SchemaSubjectsModel", name := "errorOfRegister", desc := "(I)I" } : Jvm.MethodName) prog_8_method_26_code (2 : Nat) (Option.some Jvm.ClassFile.FieldType.int)) ∈ zG := z_g 894 (by decide +kernel) (by decide +kernel)
theorem zw895 : (Jvm.Cond.methodLink "SchemaSubjectsModel" (136 : Nat) ({ cls := "SchemaSubjectsModel", name := "likeVersion", desc := "(I)I" } : Jvm.MethodName)) ∈ zG := z_g 895 (by decide +kernel) (by decide +kernel)
theorem zw897 : (Jvm.Cond.instanceMethod ({ cls := "SchemaSubjectsModel", name := "likeVersion", desc := "(I)I" } : Jvm.MethodName)) ∈ zG := z_g 897 (by decide +kernel) (by decide +kernel)
theorem zw898 : (Jvm.Cond.code ({ cls := "SchemaSubjectsModel", name := "likeVersion", desc := "(I)I" } : Jvm.MethodName) prog_8_method_24_code (3 : Nat) (Option.some Jvm.ClassFile.FieldType.int)) ∈ zG := z_g 898 (by decide +kernel) (by decide +kernel)
theorem zw899 : (Jvm.Cond.methodLink "SchemaSubjectsModel" (133 : Nat) ({ cls := "SchemaSubjectsModel", name := "isLike", desc := "(I)Z" } : Jvm.MethodName)) ∈ zG := z_g 899 (by decide +kernel) (by decide +kernel)
theorem zw901 : (Jvm.Cond.instanceMethod ({ cls := "SchemaSubjectsModel", name := "isLike", desc := "(I)Z" } : Jvm.MethodName)) ∈ zG := z_g 901 (by decide +kernel) (by decide +kernel)
theorem zw902 : (Jvm.Cond.code ({ cls := "SchemaSubjectsModel", name := "isLike", desc := "(I)Z" } : Jvm.MethodName) prog_8_method_17_code (6 : Nat) (Option.some Jvm.ClassFile.FieldType.boolean)) ∈ zG := z_g 902 (by decide +kernel) (by decide +kernel)
theorem zw903 : (Jvm.Cond.methodLink "SchemaSubjectsModel" (142 : Nat) ({ cls := "SchemaSubjectsModel", name := "numbered", desc := "()I" } : Jvm.MethodName)) ∈ zG := z_g 903 (by decide +kernel) (by decide +kernel)
theorem zw905 : (Jvm.Cond.instanceMethod ({ cls := "SchemaSubjectsModel", name := "numbered", desc := "()I" } : Jvm.MethodName)) ∈ zG := z_g 905 (by decide +kernel) (by decide +kernel)
theorem zw906 : (Jvm.Cond.code ({ cls := "SchemaSubjectsModel", name := "numbered", desc := "()I" } : Jvm.MethodName) prog_8_method_25_code (4 : Nat) (Option.some Jvm.ClassFile.FieldType.int)) ∈ zG := z_g 906 (by decide +kernel) (by decide +kernel)
theorem zw915 : (Jvm.Cond.methodLink "SchemaSubjectsModel" (152 : Nat) ({ cls := "SchemaSubjectsModel", name := "errorOfDelete", desc := "(IIZ)I" } : Jvm.MethodName)) ∈ zG := z_g 915 (by decide +kernel) (by decide +kernel)
theorem zw917 : (Jvm.Cond.instanceMethod ({ cls := "SchemaSubjectsModel", name := "errorOfDelete", desc := "(IIZ)I" } : Jvm.MethodName)) ∈ zG := z_g 917 (by decide +kernel) (by decide +kernel)
theorem zw918 : (Jvm.Cond.code ({ cls := "SchemaSubjectsModel", name := "errorOfDelete", desc := "(IIZ)I" } : Jvm.MethodName) prog_8_method_31_code (5 : Nat) (Option.some Jvm.ClassFile.FieldType.int)) ∈ zG := z_g 918 (by decide +kernel) (by decide +kernel)
theorem zw919 : (Jvm.Cond.methodLink "SchemaSubjectsModel" (149 : Nat) ({ cls := "SchemaSubjectsModel", name := "isReferred", desc := "(I)Z" } : Jvm.MethodName)) ∈ zG := z_g 919 (by decide +kernel) (by decide +kernel)
theorem zw921 : (Jvm.Cond.instanceMethod ({ cls := "SchemaSubjectsModel", name := "isReferred", desc := "(I)Z" } : Jvm.MethodName)) ∈ zG := z_g 921 (by decide +kernel) (by decide +kernel)
theorem zw922 : (Jvm.Cond.code ({ cls := "SchemaSubjectsModel", name := "isReferred", desc := "(I)Z" } : Jvm.MethodName) prog_8_method_30_code (3 : Nat) (Option.some Jvm.ClassFile.FieldType.boolean)) ∈ zG := z_g 922 (by decide +kernel) (by decide +kernel)
theorem zw923 : (Jvm.Cond.methodLink "SchemaSubjectsModel" (146 : Nat) ({ cls := "SchemaSubjectsModel", name := "refers", desc := "(II)Z" } : Jvm.MethodName)) ∈ zG := z_g 923 (by decide +kernel) (by decide +kernel)
theorem zw925 : (Jvm.Cond.instanceMethod ({ cls := "SchemaSubjectsModel", name := "refers", desc := "(II)Z" } : Jvm.MethodName)) ∈ zG := z_g 925 (by decide +kernel) (by decide +kernel)
theorem zw926 : (Jvm.Cond.code ({ cls := "SchemaSubjectsModel", name := "refers", desc := "(II)Z" } : Jvm.MethodName) prog_8_method_29_code (4 : Nat) (Option.some Jvm.ClassFile.FieldType.boolean)) ∈ zG := z_g 926 (by decide +kernel) (by decide +kernel)
theorem zw935 : (Jvm.Cond.methodLink "SchemaSubjectsModel" (156 : Nat) ({ cls := "SchemaSubjectsModel", name := "isAsked", desc := "(II)Z" } : Jvm.MethodName)) ∈ zG := z_g 935 (by decide +kernel) (by decide +kernel)
theorem zw937 : (Jvm.Cond.instanceMethod ({ cls := "SchemaSubjectsModel", name := "isAsked", desc := "(II)Z" } : Jvm.MethodName)) ∈ zG := z_g 937 (by decide +kernel) (by decide +kernel)
theorem zw938 : (Jvm.Cond.code ({ cls := "SchemaSubjectsModel", name := "isAsked", desc := "(II)Z" } : Jvm.MethodName) prog_8_method_34_code (3 : Nat) (Option.some Jvm.ClassFile.FieldType.boolean)) ∈ zG := z_g 938 (by decide +kernel) (by decide +kernel)
theorem zw951 : (Jvm.Cond.methodLink "SchemaSubjectsModel" (159 : Nat) ({ cls := "SchemaSubjectsModel", name := "errorOfBoth", desc := "(IIII)I" } : Jvm.MethodName)) ∈ zG := z_g 951 (by decide +kernel) (by decide +kernel)
theorem zw953 : (Jvm.Cond.instanceMethod ({ cls := "SchemaSubjectsModel", name := "errorOfBoth", desc := "(IIII)I" } : Jvm.MethodName)) ∈ zG := z_g 953 (by decide +kernel) (by decide +kernel)
theorem zw954 : (Jvm.Cond.code ({ cls := "SchemaSubjectsModel", name := "errorOfBoth", desc := "(IIII)I" } : Jvm.MethodName) prog_8_method_38_code (6 : Nat) (Option.some Jvm.ClassFile.FieldType.int)) ∈ zG := z_g 954 (by decide +kernel) (by decide +kernel)
theorem zw955 : (Jvm.Cond.methodLink "SchemaSubjectsModel" (162 : Nat) ({ cls := "SchemaSubjectsModel", name := "canOf", desc := "(IIII)Z" } : Jvm.MethodName)) ∈ zG := z_g 955 (by decide +kernel) (by decide +kernel)
theorem zw957 : (Jvm.Cond.instanceMethod ({ cls := "SchemaSubjectsModel", name := "canOf", desc := "(IIII)Z" } : Jvm.MethodName)) ∈ zG := z_g 957 (by decide +kernel) (by decide +kernel)
theorem zw958 : (Jvm.Cond.code ({ cls := "SchemaSubjectsModel", name := "canOf", desc := "(IIII)Z" } : Jvm.MethodName) prog_8_method_39_code (5 : Nat) (Option.some Jvm.ClassFile.FieldType.boolean)) ∈ zG := z_g 958 (by decide +kernel) (by decide +kernel)
theorem zw963 : (Jvm.Cond.methodLink "SchemaSubjectsModel" (165 : Nat) ({ cls := "SchemaSubjectsModel", name := "small", desc := "(I)I" } : Jvm.MethodName)) ∈ zG := z_g 963 (by decide +kernel) (by decide +kernel)
theorem zw965 : (Jvm.Cond.instanceMethod ({ cls := "SchemaSubjectsModel", name := "small", desc := "(I)I" } : Jvm.MethodName)) ∈ zG := z_g 965 (by decide +kernel) (by decide +kernel)
theorem zw966 : (Jvm.Cond.code ({ cls := "SchemaSubjectsModel", name := "small", desc := "(I)I" } : Jvm.MethodName) prog_8_method_41_code (6 : Nat) (Option.some Jvm.ClassFile.FieldType.int)) ∈ zG := z_g 966 (by decide +kernel) (by decide +kernel)
theorem zw979 : (Jvm.Cond.methodLink "SchemaSubjectsModel" (171 : Nat) ({ cls := "SchemaSubjectsModel", name := "isRecordOf", desc := "(I)Z" } : Jvm.MethodName)) ∈ zG := z_g 979 (by decide +kernel) (by decide +kernel)
theorem zw981 : (Jvm.Cond.instanceMethod ({ cls := "SchemaSubjectsModel", name := "isRecordOf", desc := "(I)Z" } : Jvm.MethodName)) ∈ zG := z_g 981 (by decide +kernel) (by decide +kernel)
theorem zw982 : (Jvm.Cond.code ({ cls := "SchemaSubjectsModel", name := "isRecordOf", desc := "(I)Z" } : Jvm.MethodName) prog_8_method_45_code (6 : Nat) (Option.some Jvm.ClassFile.FieldType.boolean)) ∈ zG := z_g 982 (by decide +kernel) (by decide +kernel)
theorem zw987 : (Jvm.Cond.methodLink "SchemaSubjectsModel" (177 : Nat) ({ cls := "SchemaSubjectsModel", name := "reads", desc := "(II)I" } : Jvm.MethodName)) ∈ zG := z_g 987 (by decide +kernel) (by decide +kernel)
theorem zw989 : (Jvm.Cond.instanceMethod ({ cls := "SchemaSubjectsModel", name := "reads", desc := "(II)I" } : Jvm.MethodName)) ∈ zG := z_g 989 (by decide +kernel) (by decide +kernel)
theorem zw990 : (Jvm.Cond.code ({ cls := "SchemaSubjectsModel", name := "reads", desc := "(II)I" } : Jvm.MethodName) prog_8_method_48_code (12 : Nat) (Option.some Jvm.ClassFile.FieldType.int)) ∈ zG := z_g 990 (by decide +kernel) (by decide +kernel)
theorem zw991 : (Jvm.Cond.methodLink "SchemaSubjectsModel" (174 : Nat) ({ cls := "SchemaSubjectsModel", name := "ahead", desc := "(II)I" } : Jvm.MethodName)) ∈ zG := z_g 991 (by decide +kernel) (by decide +kernel)
theorem zw993 : (Jvm.Cond.instanceMethod ({ cls := "SchemaSubjectsModel", name := "ahead", desc := "(II)I" } : Jvm.MethodName)) ∈ zG := z_g 993 (by decide +kernel) (by decide +kernel)
theorem zw994 : (Jvm.Cond.code ({ cls := "SchemaSubjectsModel", name := "ahead", desc := "(II)I" } : Jvm.MethodName) prog_8_method_47_code (5 : Nat) (Option.some Jvm.ClassFile.FieldType.int)) ∈ zG := z_g 994 (by decide +kernel) (by decide +kernel)
theorem zw1001 : (Jvm.Cond.castable "SchemaSubjects" "java/lang/Object") ∈ zG := z_g 1001 (by decide +kernel) (by decide +kernel)
theorem zw1002 : (Jvm.Cond.castable "java/util/ArrayList" "java/lang/Object") ∈ zG := z_g 1002 (by decide +kernel) (by decide +kernel)
theorem zw1003 : (Jvm.Cond.castable "SchemaSubjects$Subject" "java/lang/Object") ∈ zG := z_g 1003 (by decide +kernel) (by decide +kernel)
theorem zw1004 : (Jvm.Cond.castable "SchemaSubjects$Schema" "java/lang/Object") ∈ zG := z_g 1004 (by decide +kernel) (by decide +kernel)
theorem zw1005 : (Jvm.Cond.castable "SchemaSubjects$Row" "java/lang/Object") ∈ zG := z_g 1005 (by decide +kernel) (by decide +kernel)
theorem zw1006 : (Jvm.Cond.castable "SchemaSubjectsModel" "java/lang/Object") ∈ zG := z_g 1006 (by decide +kernel) (by decide +kernel)
theorem zw1010 : (Jvm.Cond.castable "SchemaSubjects$Field" "java/lang/Object") ∈ zG := z_g 1010 (by decide +kernel) (by decide +kernel)
theorem zw1011 : (Jvm.Cond.castable "SchemaSubjects$Version" "java/lang/Object") ∈ zG := z_g 1011 (by decide +kernel) (by decide +kernel)
theorem zw1015 : (Jvm.Cond.selects "[Ljava/lang/Object;" ({ cls := "java/lang/Object", name := "getClass", desc := "()Ljava/lang/Class;" } : Jvm.MethodName) ({ cls := "java/lang/Object", name := "getClass", desc := "()Ljava/lang/Class;" } : Jvm.MethodName)) ∈ zG := z_g 1015 (by decide +kernel) (by decide +kernel)
theorem zw1016 : (Jvm.Cond.declares ({ cls := "java/lang/Object", name := "getClass", desc := "()Ljava/lang/Class;" } : Jvm.MethodName)) ∈ zG := z_g 1016 (by decide +kernel) (by decide +kernel)
theorem zcast : zCast := by
  intro k q hq
  match k, hq with
  | 0, hq => cases hq; exact zw1002
  | 1, hq => cases hq; exact zw1010
  | 2, hq => cases hq; exact zw1005
  | 3, hq => cases hq; exact zw1004
  | 4, hq => cases hq; exact zw1003
  | 5, hq => cases hq; exact zw1011
  | 6, hq => cases hq; exact zw1001
  | 7, hq => cases hq; exact zw1006
  | k + 8, hq => simp [vwCl] at hq
theorem zta_X5_57 : ∀ w ∈ vx_atS "SchemaSubjects" 57 "java/lang/IllegalArgumentException" zNs, w ∈ zG := z_in [54, 300, 309, 313, 316, 318, 301, 302, 70, 71, 303, 308, 314, 334, 290, 335, 292, 336, 294, 304, 306, 296, 330, 331, 333, 296, 321, 322, 323, 324, 282, 324, 325, 326, 327, 284, 327, 328, 329, 330, 286, 320, 279, 280, 287, 288, 289, 291, 293, 295, 299, 298, 297] (by decide +kernel) (by decide +kernel)
theorem zta_X5_95 : ∀ w ∈ vx_atS "SchemaSubjects" 95 "java/lang/IllegalStateException" zNs, w ∈ zG := z_in [54, 300, 309, 313, 316, 318, 301, 302, 70, 71, 303, 308, 314, 334, 290, 335, 292, 336, 294, 304, 306, 296, 330, 331, 333, 296, 409, 410, 411, 324, 282, 324, 325, 326, 327, 284, 327, 328, 329, 330, 286, 408, 399, 400, 401, 311, 402, 403, 404, 405, 299, 298, 406] (by decide +kernel) (by decide +kernel)
theorem zta_X5_73 : ∀ w ∈ vx_atS "SchemaSubjects" 73 "java/lang/IndexOutOfBoundsException" zNs, w ∈ zG := z_in [54, 300, 309, 313, 316, 318, 301, 302, 70, 71, 303, 308, 314, 334, 290, 335, 292, 336, 294, 304, 306, 296, 330, 331, 333, 296, 386, 387, 388, 324, 282, 324, 325, 326, 327, 284, 327, 328, 329, 330, 286, 385, 376, 377, 378, 312, 379, 380, 381, 382, 299, 298, 383] (by decide +kernel) (by decide +kernel)
theorem ki_Jxc12de_1 : zCi "java/util/AbstractList" 1 yJxa1e45_init_da8c8 cJxa1e45_init_da8c8 1 0 := ⟨⟨zw80, zw81, zw43, zw82, rfl⟩, by decide, by decide, by decide +kernel⟩
theorem fl_Jxc12de_7 : zFl "java/util/AbstractList" 7 0 0 RJx4a65c TJx4a65c 3 tyJx4a65c := ⟨rfl, zin_0, tyJx4a65c_ok, nmJx4a65c, by decide, "java/util/AbstractList", zw88, Or.inl rfl⟩
theorem ki_Jx4a65c_1 : zCi "java/util/ArrayList" 1 yJxc12de_init_da8c8 cJxc12de_init_da8c8 1 0 := ⟨⟨zw77, zw78, zw44, zw79, rfl⟩, by decide, by decide, by decide +kernel⟩
theorem fl_Jx4a65c_9 : zFl "java/util/ArrayList" 9 0 1 RJx4a65c TJx4a65c 3 tyJx4a65c := ⟨rfl, zin_0, tyJx4a65c_ok, nmJx4a65c, by decide, "java/util/ArrayList", zw86, Or.inl rfl⟩
theorem kn_X3_9 : zNc "SchemaSubjects$Subject" 9 0 RJx4a65c TJx4a65c 3 tyJx4a65c := ⟨rfl, zin_0, tyJx4a65c_ok, zw104, zw73, zw45⟩
theorem ki_X3_11 : zCi "SchemaSubjects$Subject" 11 yJx4a65c_init_da8c8 cJx4a65c_init_da8c8 1 0 := ⟨⟨zw105, zw75, zw45, zw76, rfl⟩, by decide, by decide, by decide +kernel⟩
theorem fl_X3_12 : zFl "SchemaSubjects$Subject" 12 4 0 RX3 TX3 3 tyX3 := ⟨rfl, zin_4, tyX3_ok, nmX3, by decide, "SchemaSubjects$Subject", zw106, Or.inl rfl⟩
theorem ks_J7_300 : zCs "java/util/Arrays" 300 yJ7_copyOf_6403c cJ7_copyOf_6403c 4 (some ((.array (.object "java/lang/Object")))) 3 := ⟨⟨zw163, zw164, zw49, zw165⟩, by decide, by decide, by decide +kernel⟩
theorem ks_Jx4a65c_73 : zCs "java/util/ArrayList" 73 yJ8_newLength_cabcc cJ8_newLength_cabcc 4 (some .int) 3 := ⟨⟨zw135, zw136, zw47, zw137⟩, by decide, by decide, by decide +kernel⟩
theorem ks_Jx4a65c_66 : zCs "java/util/ArrayList" 66 yJ7_copyOf_1904c cJ7_copyOf_1904c 2 (some ((.array (.object "java/lang/Object")))) 2 := ⟨⟨zw145, zw146, zw49, zw147⟩, by decide, by decide, by decide +kernel⟩
theorem fl_Jx4a65c_48 : zFl "java/util/ArrayList" 48 0 2 RJx4a65c TJx4a65c 3 tyJx4a65c := ⟨rfl, zin_0, tyJx4a65c_ok, nmJx4a65c, by decide, "java/util/ArrayList", zw87, Or.inl rfl⟩
theorem kv_Jx4a65c_69 : zCv "java/util/ArrayList" 69 "java/util/ArrayList" yJx4a65c_grow_92f84 cJx4a65c_grow_92f84 4 (some ((.array (.object "java/lang/Object")))) 1 := ⟨⟨zw131, zw133, zw2, zw45, zw134⟩, rfl, by decide, by decide, by decide +kernel⟩
theorem kv_Jx4a65c_129 : zCv "java/util/ArrayList" 129 "java/util/ArrayList" yJx4a65c_grow_d5877 cJx4a65c_grow_d5877 1 (some ((.array (.object "java/lang/Object")))) 0 := ⟨⟨zw127, zw129, zw1, zw45, zw130⟩, rfl, by decide, by decide, by decide +kernel⟩
theorem fl_Jx4a65c_63 : zFl "java/util/ArrayList" 63 0 0 RJx4a65c TJx4a65c 3 tyJx4a65c := ⟨rfl, zin_0, tyJx4a65c_ok, nmJx4a65c, by decide, "java/util/ArrayList", zw89, Or.inr zw90⟩
theorem kv_Jx4a65c_131 : zCv "java/util/ArrayList" 131 "java/util/ArrayList" yJx4a65c_add_72be8 cJx4a65c_add_72be8 4 none 3 := ⟨⟨zw123, zw125, zw0, zw45, zw126⟩, rfl, by decide, by decide, by decide +kernel⟩
theorem fl_X1_9 : zFl "SchemaSubjects$Row" 9 2 0 RX1 TX1 2 tyX1 := ⟨rfl, zin_2, tyX1_ok, nmX1, by decide, "SchemaSubjects$Row", zw191, Or.inl rfl⟩
theorem kn_X2_9 : zNc "SchemaSubjects$Schema" 9 0 RJx4a65c TJx4a65c 3 tyJx4a65c := ⟨rfl, zin_0, tyJx4a65c_ok, zw183, zw73, zw45⟩
theorem ki_X2_11 : zCi "SchemaSubjects$Schema" 11 yJx4a65c_init_da8c8 cJx4a65c_init_da8c8 1 0 := ⟨⟨zw184, zw75, zw45, zw76, rfl⟩, by decide, by decide, by decide +kernel⟩
theorem fl_X2_12 : zFl "SchemaSubjects$Schema" 12 3 0 RX2 TX2 3 tyX2 := ⟨rfl, zin_3, tyX2_ok, nmX2, by decide, "SchemaSubjects$Schema", zw199, Or.inl rfl⟩
theorem kn_X2_18 : zNc "SchemaSubjects$Schema" 18 2 RX1 TX1 2 tyX1 := ⟨rfl, zin_2, tyX1_ok, zw185, zw186, zw52⟩
theorem ki_X2_20 : zCi "SchemaSubjects$Schema" 20 yX1_init cX1_init 1 0 := ⟨⟨zw187, zw188, zw52, zw189, rfl⟩, by decide, by decide, by decide +kernel⟩
theorem fl_X2_21 : zFl "SchemaSubjects$Schema" 21 3 1 RX2 TX2 3 tyX2 := ⟨rfl, zin_3, tyX2_ok, nmX2, by decide, "SchemaSubjects$Schema", zw201, Or.inl rfl⟩
theorem fl_X2_25 : zFl "SchemaSubjects$Schema" 25 3 2 RX2 TX2 3 tyX2 := ⟨rfl, zin_3, tyX2_ok, nmX2, by decide, "SchemaSubjects$Schema", zw203, Or.inl rfl⟩
theorem fl_X5_10 : zFl "SchemaSubjects" 10 6 0 RX5 TX5 6 tyX5 := ⟨rfl, zin_6, tyX5_ok, nmX5, by decide, "SchemaSubjects", zw214, Or.inl rfl⟩
theorem kn_X5_7 : zNc "SchemaSubjects" 7 0 RJx4a65c TJx4a65c 3 tyJx4a65c := ⟨rfl, zin_0, tyJx4a65c_ok, zw72, zw73, zw45⟩
theorem ki_X5_9 : zCi "SchemaSubjects" 9 yJx4a65c_init_da8c8 cJx4a65c_init_da8c8 1 0 := ⟨⟨zw74, zw75, zw45, zw76, rfl⟩, by decide, by decide, by decide +kernel⟩
theorem fl_X5_23 : zFl "SchemaSubjects" 23 6 1 RX5 TX5 6 tyX5 := ⟨rfl, zin_6, tyX5_ok, nmX5, by decide, "SchemaSubjects", zw215, Or.inl rfl⟩
theorem kn_X5_26 : zNc "SchemaSubjects" 26 3 RX2 TX2 3 tyX2 := ⟨rfl, zin_3, tyX2_ok, zw177, zw178, zw51⟩
theorem ki_X5_28 : zCi "SchemaSubjects" 28 yX2_init cX2_init 1 0 := ⟨⟨zw179, zw180, zw51, zw181, rfl⟩, by decide, by decide, by decide +kernel⟩
theorem fl_X5_29 : zFl "SchemaSubjects" 29 6 2 RX5 TX5 6 tyX5 := ⟨rfl, zin_6, tyX5_ok, nmX5, by decide, "SchemaSubjects", zw216, Or.inl rfl⟩
theorem kn_X5_33 : zNc "SchemaSubjects" 33 2 RX1 TX1 2 tyX1 := ⟨rfl, zin_2, tyX1_ok, zw212, zw186, zw52⟩
theorem ki_X5_35 : zCi "SchemaSubjects" 35 yX1_init cX1_init 1 0 := ⟨⟨zw213, zw188, zw52, zw189, rfl⟩, by decide, by decide, by decide +kernel⟩
theorem fl_X5_36 : zFl "SchemaSubjects" 36 6 3 RX5 TX5 6 tyX5 := ⟨rfl, zin_6, tyX5_ok, nmX5, by decide, "SchemaSubjects", zw217, Or.inl rfl⟩
theorem fl_X5_40 : zFl "SchemaSubjects" 40 6 4 RX5 TX5 6 tyX5 := ⟨rfl, zin_6, tyX5_ok, nmX5, by decide, "SchemaSubjects", zw218, Or.inl rfl⟩
theorem fl_X5_43 : zFl "SchemaSubjects" 43 6 5 RX5 TX5 6 tyX5 := ⟨rfl, zin_6, tyX5_ok, nmX5, by decide, "SchemaSubjects", zw219, Or.inl rfl⟩
theorem kn_X5_16 : zNc "SchemaSubjects" 16 4 RX3 TX3 3 tyX3 := ⟨rfl, zin_4, tyX3_ok, zw98, zw99, zw46⟩
theorem ki_X5_18 : zCi "SchemaSubjects" 18 yX3_init cX3_init 1 0 := ⟨⟨zw100, zw101, zw46, zw102, rfl⟩, by decide, by decide, by decide +kernel⟩
theorem kv_X5_19 : zCv "SchemaSubjects" 19 "java/util/ArrayList" yJx4a65c_add_9ea2d cJx4a65c_add_9ea2d 2 (some .boolean) 1 := ⟨⟨zw119, zw120, zw121, zw45, zw122⟩, rfl, by decide, by decide, by decide +kernel⟩
theorem ks_J15_105 : zCs "java/util/Objects" 105 yJ3_checkIndex_8e157 cJ3_checkIndex_8e157 3 (some .int) 3 := ⟨⟨zw361, zw362, zw59, zw363⟩, by decide, by decide, by decide +kernel⟩
theorem ks_Jx4a65c_118 : zCs "java/util/ArrayList" 118 yJ15_checkIndex_7cf53 cJ15_checkIndex_7cf53 2 (some .int) 2 := ⟨⟨zw358, zw359, zw58, zw360⟩, by decide, by decide, by decide +kernel⟩
theorem kv_Jx4a65c_123 : zCv "java/util/ArrayList" 123 "java/util/ArrayList" yJx4a65c_elementData_915e3 cJx4a65c_elementData_915e3 2 (some ((.object "java/lang/Object"))) 1 := ⟨⟨zw364, zw365, zw366, zw45, zw367⟩, rfl, by decide, by decide, by decide +kernel⟩
theorem fl_X3_28 : zFl "SchemaSubjects$Subject" 28 5 1 RX4 TX4 2 tyX4 := ⟨rfl, zin_5, tyX4_ok, nmX4, by decide, "SchemaSubjects$Version", zw580, Or.inl rfl⟩
theorem kv_X3_18 : zCv "SchemaSubjects$Subject" 18 "java/util/ArrayList" yJx4a65c_size_8abf5 cJx4a65c_size_8abf5 1 (some .int) 0 := ⟨⟨zw372, zw238, zw239, zw45, zw240⟩, rfl, by decide, by decide, by decide +kernel⟩
theorem kv_X3_22 : zCv "SchemaSubjects$Subject" 22 "java/util/ArrayList" yJx4a65c_get_915e3 cJx4a65c_get_915e3 2 (some ((.object "java/lang/Object"))) 1 := ⟨⟨zw373, zw355, zw356, zw45, zw357⟩, rfl, by decide, by decide, by decide +kernel⟩
theorem fl_X5_181 : zFl "SchemaSubjects" 181 5 1 RX4 TX4 2 tyX4 := ⟨rfl, zin_5, tyX4_ok, nmX4, by decide, "SchemaSubjects$Version", zw581, Or.inl rfl⟩
theorem fl_X5_252 : zFl "SchemaSubjects" 252 5 0 RX4 TX4 2 tyX4 := ⟨rfl, zin_5, tyX4_ok, nmX4, by decide, "SchemaSubjects$Version", zw578, Or.inl rfl⟩
theorem kv_X5_84 : zCv "SchemaSubjects" 84 "java/util/ArrayList" yJx4a65c_size_8abf5 cJx4a65c_size_8abf5 1 (some .int) 0 := ⟨⟨zw237, zw238, zw239, zw45, zw240⟩, rfl, by decide, by decide, by decide +kernel⟩
theorem kv_X5_242 : zCv "SchemaSubjects" 242 "java/util/ArrayList" yJx4a65c_get_915e3 cJx4a65c_get_915e3 2 (some ((.object "java/lang/Object"))) 1 := ⟨⟨zw354, zw355, zw356, zw45, zw357⟩, rfl, by decide, by decide, by decide +kernel⟩
theorem kv_X5_246 : zCv "SchemaSubjects" 246 "SchemaSubjects$Subject" yX3_keptVersion cX3_keptVersion 3 (some ((.object "SchemaSubjects$Version"))) 1 := ⟨⟨zw368, zw369, zw370, zw46, zw371⟩, rfl, by decide, by decide, by decide +kernel⟩
theorem fl_X1_15 : zFl "SchemaSubjects$Row" 15 2 1 RX1 TX1 2 tyX1 := ⟨rfl, zin_2, tyX1_ok, nmX1, by decide, "SchemaSubjects$Row", zw192, Or.inl rfl⟩
theorem fl_X2_72 : zFl "SchemaSubjects$Schema" 72 1 0 RX0 TX0 9 tyX0 := ⟨rfl, zin_1, tyX0_ok, nmX0, by decide, "SchemaSubjects$Field", zw425, Or.inl rfl⟩
theorem kv_X2_66 : zCv "SchemaSubjects$Schema" 66 "java/util/ArrayList" yJx4a65c_size_8abf5 cJx4a65c_size_8abf5 1 (some .int) 0 := ⟨⟨zw395, zw238, zw239, zw45, zw240⟩, rfl, by decide, by decide, by decide +kernel⟩
theorem kv_X2_68 : zCv "SchemaSubjects$Schema" 68 "java/util/ArrayList" yJx4a65c_get_915e3 cJx4a65c_get_915e3 2 (some ((.object "java/lang/Object"))) 1 := ⟨⟨zw396, zw355, zw356, zw45, zw357⟩, rfl, by decide, by decide, by decide +kernel⟩
theorem fl_X0_9 : zFl "SchemaSubjects$Field" 9 1 0 RX0 TX0 9 tyX0 := ⟨rfl, zin_1, tyX0_ok, nmX0, by decide, "SchemaSubjects$Field", zw423, Or.inl rfl⟩
theorem fl_X0_15 : zFl "SchemaSubjects$Field" 15 1 1 RX0 TX0 9 tyX0 := ⟨rfl, zin_1, tyX0_ok, nmX0, by decide, "SchemaSubjects$Field", zw426, Or.inl rfl⟩
theorem fl_X0_18 : zFl "SchemaSubjects$Field" 18 1 2 RX0 TX0 9 tyX0 := ⟨rfl, zin_1, tyX0_ok, nmX0, by decide, "SchemaSubjects$Field", zw428, Or.inl rfl⟩
theorem fl_X0_21 : zFl "SchemaSubjects$Field" 21 1 3 RX0 TX0 9 tyX0 := ⟨rfl, zin_1, tyX0_ok, nmX0, by decide, "SchemaSubjects$Field", zw431, Or.inl rfl⟩
theorem fl_X0_24 : zFl "SchemaSubjects$Field" 24 1 4 RX0 TX0 9 tyX0 := ⟨rfl, zin_1, tyX0_ok, nmX0, by decide, "SchemaSubjects$Field", zw433, Or.inl rfl⟩
theorem fl_X0_27 : zFl "SchemaSubjects$Field" 27 1 5 RX0 TX0 9 tyX0 := ⟨rfl, zin_1, tyX0_ok, nmX0, by decide, "SchemaSubjects$Field", zw435, Or.inl rfl⟩
theorem kv_X1_19 : zCv "SchemaSubjects$Row" 19 "SchemaSubjects$Row" yX1_count cX1_count 1 (some .int) 0 := ⟨⟨zw477, zw258, zw259, zw52, zw260⟩, rfl, by decide, by decide, by decide +kernel⟩
theorem kv_X1_23 : zCv "SchemaSubjects$Row" 23 "SchemaSubjects$Row" yX1_at cX1_at 2 (some .int) 1 := ⟨⟨zw478, zw479, zw480, zw52, zw481⟩, rfl, by decide, by decide, by decide +kernel⟩
theorem kv_X1_27 : zCv "SchemaSubjects$Row" 27 "SchemaSubjects$Row" yX1_add cX1_add 2 none 1 := ⟨⟨zw482, zw470, zw471, zw52, zw472⟩, rfl, by decide, by decide, by decide +kernel⟩
theorem fl_X2_42 : zFl "SchemaSubjects$Schema" 42 1 5 RX0 TX0 9 tyX0 := ⟨rfl, zin_1, tyX0_ok, nmX0, by decide, "SchemaSubjects$Field", zw436, Or.inl rfl⟩
theorem fl_X2_46 : zFl "SchemaSubjects$Schema" 46 1 2 RX0 TX0 9 tyX0 := ⟨rfl, zin_1, tyX0_ok, nmX0, by decide, "SchemaSubjects$Field", zw429, Or.inl rfl⟩
theorem kv_X2_29 : zCv "SchemaSubjects$Schema" 29 "SchemaSubjects$Row" yX1_count cX1_count 1 (some .int) 0 := ⟨⟨zw467, zw258, zw259, zw52, zw260⟩, rfl, by decide, by decide, by decide +kernel⟩
theorem fl_X2_33 : zFl "SchemaSubjects$Schema" 33 1 6 RX0 TX0 9 tyX0 := ⟨rfl, zin_1, tyX0_ok, nmX0, by decide, "SchemaSubjects$Field", zw438, Or.inl rfl⟩
theorem kv_X2_38 : zCv "SchemaSubjects$Schema" 38 "java/util/ArrayList" yJx4a65c_add_9ea2d cJx4a65c_add_9ea2d 2 (some .boolean) 1 := ⟨⟨zw468, zw120, zw121, zw45, zw122⟩, rfl, by decide, by decide, by decide +kernel⟩
theorem kv_X2_49 : zCv "SchemaSubjects$Schema" 49 "SchemaSubjects$Row" yX1_add cX1_add 2 none 1 := ⟨⟨zw469, zw470, zw471, zw52, zw472⟩, rfl, by decide, by decide, by decide +kernel⟩
theorem kv_X2_52 : zCv "SchemaSubjects$Schema" 52 "SchemaSubjects$Row" yX1_addAll cX1_addAll 3 none 1 := ⟨⟨zw473, zw474, zw475, zw52, zw476⟩, rfl, by decide, by decide, by decide +kernel⟩
theorem fl_X5_81 : zFl "SchemaSubjects" 81 3 0 RX2 TX2 3 tyX2 := ⟨rfl, zin_3, tyX2_ok, nmX2, by decide, "SchemaSubjects$Schema", zw200, Or.inl rfl⟩
theorem fl_X5_74 : zFl "SchemaSubjects" 74 3 1 RX2 TX2 3 tyX2 := ⟨rfl, zin_3, tyX2_ok, nmX2, by decide, "SchemaSubjects$Schema", zw202, Or.inl rfl⟩
theorem kt_X5_53_55 : zTh "SchemaSubjects" 53 55 57 "no such name, type or alias" (zXn 1) := ⟨zw278, zw57, List.mem_of_getElem? (i := 319) (by decide +kernel), zta_X5_57, by decide +kernel, by decide +kernel⟩
theorem kt_X5_91_93 : zTh "SchemaSubjects" 91 93 95 "the draft cannot take this field" (zXn 3) := ⟨zw398, zw61, List.mem_of_getElem? (i := 407) (by decide +kernel), zta_X5_95, by decide +kernel, by decide +kernel⟩
theorem kn_X5_96 : zNc "SchemaSubjects" 96 1 RX0 TX0 9 tyX0 := ⟨rfl, zin_1, tyX0_ok, zw414, zw415, zw62⟩
theorem ks_X5_98 : zCs "SchemaSubjects" 98 yX5_sizeOf cX5_sizeOf 2 (some .int) 2 := ⟨⟨zw416, zw417, zw42, zw418⟩, by decide, by decide, by decide +kernel⟩
theorem ki_X5_102 : zCi "SchemaSubjects" 102 yX0_init cX0_init 7 6 := ⟨⟨zw419, zw420, zw62, zw421, rfl⟩, by decide, by decide, by decide +kernel⟩
theorem kv_X5_105 : zCv "SchemaSubjects" 105 "SchemaSubjects$Schema" yX2_append cX2_append 2 none 1 := ⟨⟨zw463, zw464, zw465, zw51, zw466⟩, rfl, by decide, by decide, by decide +kernel⟩
theorem kv_X5_87 : zCv "SchemaSubjects" 87 "SchemaSubjects$Schema" yX2_named cX2_named 3 (some ((.object "SchemaSubjects$Field"))) 1 := ⟨⟨zw391, zw392, zw393, zw51, zw394⟩, rfl, by decide, by decide, by decide +kernel⟩
theorem kv_X5_77 : zCv "SchemaSubjects" 77 "SchemaSubjects$Row" yX1_count cX1_count 1 (some .int) 0 := ⟨⟨zw257, zw258, zw259, zw52, zw260⟩, rfl, by decide, by decide, by decide +kernel⟩
theorem kt_X5_69_71 : zTh "SchemaSubjects" 69 71 73 "no version there to refer to" (zXn 2) := ⟨zw375, zw60, List.mem_of_getElem? (i := 384) (by decide +kernel), zta_X5_73, by decide +kernel, by decide +kernel⟩
theorem kv_X5_65 : zCv "SchemaSubjects" 65 "SchemaSubjects" yX5_referable cX5_referable 3 (some ((.object "SchemaSubjects$Schema"))) 1 := ⟨⟨zw350, zw352, zw4, zw42, zw353⟩, rfl, by decide, by decide, by decide +kernel⟩
theorem ks_X5_60 : zCs "SchemaSubjects" 60 yX5_isSize cX5_isSize 1 (some .boolean) 1 := ⟨⟨zw346, zw347, zw42, zw348⟩, by decide, by decide, by decide +kernel⟩
theorem kt_X5_53_63 : zTh "SchemaSubjects" 53 63 57 "no such size" (zXn 1) := ⟨zw278, zw57, List.mem_of_getElem? (i := 349) (by decide +kernel), zta_X5_57, by decide +kernel, by decide +kernel⟩
theorem ks_X5_46 : zCs "SchemaSubjects" 46 yX5_isName cX5_isName 1 (some .boolean) 1 := ⟨⟨zw272, zw273, zw42, zw274⟩, by decide, by decide, by decide +kernel⟩
theorem ks_X5_50 : zCs "SchemaSubjects" 50 yX5_isType cX5_isType 1 (some .boolean) 1 := ⟨⟨zw275, zw276, zw42, zw277⟩, by decide, by decide, by decide +kernel⟩
theorem kv_X2_62 : zCv "SchemaSubjects$Schema" 62 "java/util/ArrayList" yJx4a65c_isEmpty_aae02 cJx4a65c_isEmpty_aae02 1 (some .boolean) 0 := ⟨⟨zw494, zw495, zw496, zw45, zw497⟩, rfl, by decide, by decide, by decide +kernel⟩
theorem fl_X5_113 : zFl "SchemaSubjects" 113 1 1 RX0 TX0 9 tyX0 := ⟨rfl, zin_1, tyX0_ok, nmX0, by decide, "SchemaSubjects$Field", zw427, Or.inl rfl⟩
theorem fl_X5_119 : zFl "SchemaSubjects" 119 1 2 RX0 TX0 9 tyX0 := ⟨rfl, zin_1, tyX0_ok, nmX0, by decide, "SchemaSubjects$Field", zw430, Or.inl rfl⟩
theorem fl_X5_134 : zFl "SchemaSubjects" 134 1 0 RX0 TX0 9 tyX0 := ⟨rfl, zin_1, tyX0_ok, nmX0, by decide, "SchemaSubjects$Field", zw424, Or.inl rfl⟩
theorem kt_X5_91_117 : zTh "SchemaSubjects" 91 117 95 "no field that may have a default" (zXn 3) := ⟨zw398, zw61, List.mem_of_getElem? (i := 498) (by decide +kernel), zta_X5_95, by decide +kernel, by decide +kernel⟩
theorem kv_X5_109 : zCv "SchemaSubjects" 109 "SchemaSubjects$Schema" yX2_last cX2_last 1 (some ((.object "SchemaSubjects$Field"))) 0 := ⟨⟨zw490, zw491, zw492, zw51, zw493⟩, rfl, by decide, by decide, by decide +kernel⟩
theorem ks_X5_121 : zCs "SchemaSubjects" 121 yX5_isOfSize cX5_isOfSize 2 (some .boolean) 2 := ⟨⟨zw499, zw500, zw42, zw501⟩, by decide, by decide, by decide +kernel⟩
theorem fl_X5_127 : zFl "SchemaSubjects" 127 1 7 RX0 TX0 9 tyX0 := ⟨rfl, zin_1, tyX0_ok, nmX0, by decide, "SchemaSubjects$Field", zw440, Or.inl rfl⟩
theorem fl_X5_131 : zFl "SchemaSubjects" 131 1 8 RX0 TX0 9 tyX0 := ⟨rfl, zin_1, tyX0_ok, nmX0, by decide, "SchemaSubjects$Field", zw442, Or.inl rfl⟩
theorem kt_X5_53_125 : zTh "SchemaSubjects" 53 125 57 "no value of the field" (zXn 1) := ⟨zw278, zw57, List.mem_of_getElem? (i := 502) (by decide +kernel), zta_X5_57, by decide +kernel, by decide +kernel⟩
theorem kv_X2_56 : zCv "SchemaSubjects$Schema" 56 "java/util/ArrayList" yJx4a65c_clear_da8c8 cJx4a65c_clear_da8c8 4 none 0 := ⟨⟨zw245, zw246, zw247, zw45, zw248⟩, rfl, by decide, by decide, by decide +kernel⟩
theorem kv_X2_59 : zCv "SchemaSubjects$Schema" 59 "SchemaSubjects$Row" yX1_empty cX1_empty 1 none 0 := ⟨⟨zw249, zw250, zw251, zw52, zw252⟩, rfl, by decide, by decide, by decide +kernel⟩
theorem kv_X5_137 : zCv "SchemaSubjects" 137 "SchemaSubjects$Schema" yX2_empty cX2_empty 1 none 0 := ⟨⟨zw241, zw242, zw243, zw51, zw244⟩, rfl, by decide, by decide, by decide +kernel⟩
theorem kt_X5_53_240 : zTh "SchemaSubjects" 53 240 57 "no such subject" (zXn 1) := ⟨zw278, zw57, List.mem_of_getElem? (i := 514) (by decide +kernel), zta_X5_57, by decide +kernel, by decide +kernel⟩
theorem kv_X5_255 : zCv "SchemaSubjects" 255 "java/util/ArrayList" yJx4a65c_isEmpty_aae02 cJx4a65c_isEmpty_aae02 1 (some .boolean) 0 := ⟨⟨zw519, zw495, zw496, zw45, zw497⟩, rfl, by decide, by decide, by decide +kernel⟩
theorem kt_X5_91_259 : zTh "SchemaSubjects" 91 259 95 "the draft has no field" (zXn 3) := ⟨zw398, zw61, List.mem_of_getElem? (i := 520) (by decide +kernel), zta_X5_95, by decide +kernel, by decide +kernel⟩
theorem fl_X2_79 : zFl "SchemaSubjects$Schema" 79 1 3 RX0 TX0 9 tyX0 := ⟨rfl, zin_1, tyX0_ok, nmX0, by decide, "SchemaSubjects$Field", zw432, Or.inl rfl⟩
theorem kv_X2_75 : zCv "SchemaSubjects$Schema" 75 "SchemaSubjects$Schema" yX2_named cX2_named 3 (some ((.object "SchemaSubjects$Field"))) 1 := ⟨⟨zw539, zw392, zw393, zw51, zw394⟩, rfl, by decide, by decide, by decide +kernel⟩
theorem fl_X5_279 : zFl "SchemaSubjects" 279 1 5 RX0 TX0 9 tyX0 := ⟨rfl, zin_1, tyX0_ok, nmX0, by decide, "SchemaSubjects$Field", zw437, Or.inl rfl⟩
theorem kv_X5_272 : zCv "SchemaSubjects" 272 "SchemaSubjects$Schema" yX2_sourceOf cX2_sourceOf 3 (some ((.object "SchemaSubjects$Field"))) 1 := ⟨⟨zw535, zw536, zw537, zw51, zw538⟩, rfl, by decide, by decide, by decide +kernel⟩
theorem kv_X5_276 : zCv "SchemaSubjects" 276 "SchemaSubjects$Field" yX0_isReadFromType cX0_isReadFromType 2 (some .boolean) 1 := ⟨⟨zw540, zw541, zw542, zw62, zw543⟩, rfl, by decide, by decide, by decide +kernel⟩
theorem ks_X5_205 : zCs "SchemaSubjects" 205 yX5_canReadSchema cX5_canReadSchema 4 (some .boolean) 3 := ⟨⟨zw544, zw530, zw42, zw531⟩, by decide, by decide, by decide +kernel⟩
theorem ks_X5_268 : zCs "SchemaSubjects" 268 yX5_canReadField cX5_canReadField 4 (some .boolean) 3 := ⟨⟨zw532, zw533, zw42, zw534⟩, by decide, by decide, by decide +kernel⟩
theorem fl_X3_54 : zFl "SchemaSubjects$Subject" 54 4 1 RX3 TX3 3 tyX3 := ⟨rfl, zin_4, tyX3_ok, nmX3, by decide, "SchemaSubjects$Subject", zw108, Or.inl rfl⟩
theorem kn_X3_57 : zCsN "SchemaSubjects$Subject" 57 yX5_canReadSchema "SchemaSubjects" cX5_canReadSchema 4 (some .boolean) 3 := ⟨⟨List.mem_of_getElem? (i := 529) (by decide +kernel), zw530, zw42, zw531⟩, by decide, by decide, by decide +kernel⟩
theorem fl_X3_32 : zFl "SchemaSubjects$Subject" 32 5 0 RX4 TX4 2 tyX4 := ⟨rfl, zin_5, tyX4_ok, nmX4, by decide, "SchemaSubjects$Version", zw577, Or.inl rfl⟩
theorem fl_X3_50 : zFl "SchemaSubjects$Subject" 50 4 2 RX3 TX3 3 tyX3 := ⟨rfl, zin_4, tyX3_ok, nmX3, by decide, "SchemaSubjects$Subject", zw110, Or.inl rfl⟩
theorem kv_X3_46 : zCv "SchemaSubjects$Subject" 46 "SchemaSubjects$Subject" yX3_agrees cX3_agrees 3 (some .boolean) 2 := ⟨⟨zw525, zw527, zw7, zw46, zw528⟩, rfl, by decide, by decide, by decide +kernel⟩
theorem kv_X5_140 : zCv "SchemaSubjects" 140 "SchemaSubjects" yX5_demandedSubject cX5_demandedSubject 2 (some ((.object "SchemaSubjects$Subject"))) 1 := ⟨⟨zw510, zw512, zw5, zw42, zw513⟩, rfl, by decide, by decide, by decide +kernel⟩
theorem kv_X5_144 : zCv "SchemaSubjects" 144 "SchemaSubjects" yX5_demandDraft cX5_demandDraft 1 none 0 := ⟨⟨zw515, zw517, zw6, zw42, zw518⟩, rfl, by decide, by decide, by decide +kernel⟩
theorem kv_X5_147 : zCv "SchemaSubjects" 147 "SchemaSubjects$Subject" yX3_accepts cX3_accepts 4 (some .boolean) 1 := ⟨⟨zw521, zw522, zw523, zw46, zw524⟩, rfl, by decide, by decide, by decide +kernel⟩
theorem fl_X0_31 : zFl "SchemaSubjects$Field" 31 1 7 RX0 TX0 9 tyX0 := ⟨rfl, zin_1, tyX0_ok, nmX0, by decide, "SchemaSubjects$Field", zw441, Or.inl rfl⟩
theorem fl_X0_35 : zFl "SchemaSubjects$Field" 35 1 8 RX0 TX0 9 tyX0 := ⟨rfl, zin_1, tyX0_ok, nmX0, by decide, "SchemaSubjects$Field", zw443, Or.inl rfl⟩
theorem kv_X2_85 : zCv "SchemaSubjects$Schema" 85 "SchemaSubjects$Field" yX0_isLike cX0_isLike 2 (some .boolean) 1 := ⟨⟨zw560, zw561, zw562, zw62, zw563⟩, rfl, by decide, by decide, by decide +kernel⟩
theorem kv_X3_36 : zCv "SchemaSubjects$Subject" 36 "SchemaSubjects$Schema" yX2_isLike cX2_isLike 3 (some .boolean) 1 := ⟨⟨zw556, zw557, zw558, zw51, zw559⟩, rfl, by decide, by decide, by decide +kernel⟩
theorem fl_X5_198 : zFl "SchemaSubjects" 198 3 2 RX2 TX2 3 tyX2 := ⟨rfl, zin_3, tyX2_ok, nmX2, by decide, "SchemaSubjects$Schema", zw204, Or.inl rfl⟩
theorem kv_X5_265 : zCv "SchemaSubjects" 265 "SchemaSubjects$Schema" yX2_isLike cX2_isLike 3 (some .boolean) 1 := ⟨⟨zw571, zw557, zw558, zw51, zw559⟩, rfl, by decide, by decide, by decide +kernel⟩
theorem fl_X4_9 : zFl "SchemaSubjects$Version" 9 5 0 RX4 TX4 2 tyX4 := ⟨rfl, zin_5, tyX4_ok, nmX4, by decide, "SchemaSubjects$Version", zw576, Or.inl rfl⟩
theorem fl_X4_15 : zFl "SchemaSubjects$Version" 15 5 1 RX4 TX4 2 tyX4 := ⟨rfl, zin_5, tyX4_ok, nmX4, by decide, "SchemaSubjects$Version", zw579, Or.inl rfl⟩
theorem fl_X5_155 : zFl "SchemaSubjects" 155 4 0 RX3 TX3 3 tyX3 := ⟨rfl, zin_4, tyX3_ok, nmX3, by decide, "SchemaSubjects$Subject", zw107, Or.inl rfl⟩
theorem kt_X5_91_158 : zTh "SchemaSubjects" 91 158 95 "not accepted, or no room for a version" (zXn 3) := ⟨zw398, zw61, List.mem_of_getElem? (i := 564) (by decide +kernel), zta_X5_95, by decide +kernel, by decide +kernel⟩
theorem kv_X5_151 : zCv "SchemaSubjects" 151 "SchemaSubjects$Subject" yX3_lowestLike cX3_lowestLike 4 (some .int) 1 := ⟨⟨zw552, zw553, zw554, zw46, zw555⟩, rfl, by decide, by decide, by decide +kernel⟩
theorem kn_X5_160 : zNc "SchemaSubjects" 160 5 RX4 TX4 2 tyX4 := ⟨rfl, zin_5, tyX4_ok, zw565, zw566, zw63⟩
theorem kv_X5_162 : zCv "SchemaSubjects" 162 "SchemaSubjects" yX5_takeDraft cX5_takeDraft 2 (some ((.object "SchemaSubjects$Schema"))) 0 := ⟨⟨zw567, zw569, zw8, zw42, zw570⟩, rfl, by decide, by decide, by decide +kernel⟩
theorem ki_X5_166 : zCi "SchemaSubjects" 166 yX4_init cX4_init 2 1 := ⟨⟨zw572, zw573, zw63, zw574, rfl⟩, by decide, by decide, by decide +kernel⟩
theorem fl_X5_171 : zFl "SchemaSubjects" 171 4 1 RX3 TX3 3 tyX3 := ⟨rfl, zin_4, tyX3_ok, nmX3, by decide, "SchemaSubjects$Subject", zw109, Or.inl rfl⟩
theorem kt_X5_53_169 : zTh "SchemaSubjects" 53 169 57 "no such mode" (zXn 1) := ⟨zw278, zw57, List.mem_of_getElem? (i := 594) (by decide +kernel), zta_X5_57, by decide +kernel, by decide +kernel⟩
theorem fl_X5_174 : zFl "SchemaSubjects" 174 4 2 RX3 TX3 3 tyX3 := ⟨rfl, zin_4, tyX3_ok, nmX3, by decide, "SchemaSubjects$Subject", zw111, Or.inl rfl⟩
theorem kt_X5_69_250 : zTh "SchemaSubjects" 69 250 73 "no such version" (zXn 2) := ⟨zw375, zw60, List.mem_of_getElem? (i := 605) (by decide +kernel), zta_X5_73, by decide +kernel, by decide +kernel⟩
theorem fl_X2_82 : zFl "SchemaSubjects$Schema" 82 1 4 RX0 TX0 9 tyX0 := ⟨rfl, zin_1, tyX0_ok, nmX0, by decide, "SchemaSubjects$Field", zw434, Or.inl rfl⟩
theorem kv_X3_42 : zCv "SchemaSubjects$Subject" 42 "SchemaSubjects$Schema" yX2_refersTo cX2_refersTo 3 (some .boolean) 1 := ⟨⟨zw618, zw611, zw612, zw51, zw613⟩, rfl, by decide, by decide, by decide +kernel⟩
theorem kv_X5_264 : zCv "SchemaSubjects" 264 "SchemaSubjects$Subject" yX3_refersTo cX3_refersTo 4 (some .boolean) 1 := ⟨⟨zw614, zw615, zw616, zw46, zw617⟩, rfl, by decide, by decide, by decide +kernel⟩
theorem kv_X5_261 : zCv "SchemaSubjects" 261 "SchemaSubjects$Schema" yX2_refersTo cX2_refersTo 3 (some .boolean) 1 := ⟨⟨zw610, zw611, zw612, zw51, zw613⟩, rfl, by decide, by decide, by decide +kernel⟩
theorem kv_X5_191 : zCv "SchemaSubjects" 191 "SchemaSubjects$Subject" yX3_countThere cX3_countThere 3 (some .int) 0 := ⟨⟨zw621, zw622, zw623, zw46, zw624⟩, rfl, by decide, by decide, by decide +kernel⟩
theorem kt_X5_91_187 : zTh "SchemaSubjects" 91 187 95 "not deleted softly yet, or referred to" (zXn 3) := ⟨zw398, zw61, List.mem_of_getElem? (i := 619) (by decide +kernel), zta_X5_95, by decide +kernel, by decide +kernel⟩
theorem ks_X5_177 : zCs "SchemaSubjects" 177 yX5_demandedVersion cX5_demandedVersion 3 (some ((.object "SchemaSubjects$Version"))) 2 := ⟨⟨zw602, zw603, zw42, zw604⟩, by decide, by decide, by decide +kernel⟩
theorem kt_X5_91_189 : zTh "SchemaSubjects" 91 189 95 "deleted softly before" (zXn 3) := ⟨zw398, zw61, List.mem_of_getElem? (i := 620) (by decide +kernel), zta_X5_95, by decide +kernel, by decide +kernel⟩
theorem kv_X5_184 : zCv "SchemaSubjects" 184 "SchemaSubjects" yX5_isReferredTo cX5_isReferredTo 3 (some .boolean) 1 := ⟨⟨zw606, zw608, zw9, zw42, zw609⟩, rfl, by decide, by decide, by decide +kernel⟩
theorem kv_X5_194 : zCv "SchemaSubjects" 194 "SchemaSubjects" yX5_demandedSchema cX5_demandedSchema 3 (some ((.object "SchemaSubjects$Schema"))) 2 := ⟨⟨zw639, zw641, zw10, zw42, zw642⟩, rfl, by decide, by decide, by decide +kernel⟩
theorem kv_X5_201 : zCv "SchemaSubjects" 201 "SchemaSubjects" yX5_demandSubjects cX5_demandSubjects 3 none 2 := ⟨⟨zw664, zw666, zw11, zw42, zw667⟩, rfl, by decide, by decide, by decide +kernel⟩
theorem kv_X5_236 : zCv "SchemaSubjects" 236 "SchemaSubjects$Row" yX1_at cX1_at 2 (some .int) 1 := ⟨⟨zw678, zw479, zw480, zw52, zw481⟩, rfl, by decide, by decide, by decide +kernel⟩
theorem kv_X5_226 : zCv "SchemaSubjects" 226 "SchemaSubjects$Row" yX1_add cX1_add 2 none 1 := ⟨⟨zw683, zw470, zw471, zw52, zw472⟩, rfl, by decide, by decide, by decide +kernel⟩
theorem kv_X5_219 : zCv "SchemaSubjects" 219 "SchemaSubjects$Row" yX1_empty cX1_empty 1 none 0 := ⟨⟨zw261, zw250, zw251, zw52, zw252⟩, rfl, by decide, by decide, by decide +kernel⟩
theorem fl_X5_290 : zFl "SchemaSubjects" 290 1 6 RX0 TX0 9 tyX0 := ⟨rfl, zin_1, tyX0_ok, nmX0, by decide, "SchemaSubjects$Field", zw439, Or.inl rfl⟩
theorem ks_X5_286 : zCs "SchemaSubjects" 286 yX5_readDefault cX5_readDefault 2 (some .boolean) 2 := ⟨⟨zw690, zw691, zw42, zw692⟩, by decide, by decide, by decide +kernel⟩
theorem ks_X5_220 : zCs "SchemaSubjects" 220 yX5_readSchema cX5_readSchema 7 (some .boolean) 6 := ⟨⟨zw684, zw685, zw42, zw686⟩, by decide, by decide, by decide +kernel⟩
theorem ks_X5_282 : zCs "SchemaSubjects" 282 yX5_readField cX5_readField 9 (some .boolean) 6 := ⟨⟨zw687, zw688, zw42, zw689⟩, by decide, by decide, by decide +kernel⟩
theorem ks_X5_215 : zCs "SchemaSubjects" 215 yX5_putSmallRecord cX5_putSmallRecord 6 none 3 := ⟨⟨zw680, zw681, zw42, zw682⟩, by decide, by decide, by decide +kernel⟩
theorem ks_X5_209 : zCs "SchemaSubjects" 209 yX5_countSmallRecords cX5_countSmallRecords 3 (some .int) 1 := ⟨⟨zw675, zw676, zw42, zw677⟩, by decide, by decide, by decide +kernel⟩
theorem kt_X5_91_213 : zTh "SchemaSubjects" 91 213 95 "too many small records" (zXn 3) := ⟨zw398, zw61, List.mem_of_getElem? (i := 679) (by decide +kernel), zta_X5_95, by decide +kernel, by decide +kernel⟩
theorem kt_X5_91_224 : zTh "SchemaSubjects" 91 224 95 "the record is full" (zXn 3) := ⟨zw398, zw61, List.mem_of_getElem? (i := 700) (by decide +kernel), zta_X5_95, by decide +kernel, by decide +kernel⟩
theorem kv_X5_229 : zCv "SchemaSubjects" 229 "SchemaSubjects" yX5_isRecordOf cX5_isRecordOf 3 (some .boolean) 1 := ⟨⟨zw708, zw710, zw12, zw42, zw711⟩, rfl, by decide, by decide, by decide +kernel⟩
theorem kt_X5_91_232 : zTh "SchemaSubjects" 91 232 95 "no record of the writer, or one that cannot be read" (zXn 3) := ⟨zw398, zw61, List.mem_of_getElem? (i := 719) (by decide +kernel), zta_X5_95, by decide +kernel, by decide +kernel⟩
theorem kt_X5_69_234 : zTh "SchemaSubjects" 69 234 73 "no such place" (zXn 2) := ⟨zw375, zw60, List.mem_of_getElem? (i := 727) (by decide +kernel), zta_X5_73, by decide +kernel, by decide +kernel⟩
theorem fl_X6_7 : zFl "SchemaSubjectsModel" 7 7 1 RX6 TX6 23 tyX6 := ⟨rfl, zin_7, tyX6_ok, nmX6, by decide, "SchemaSubjectsModel", zw735, Or.inl rfl⟩
theorem fl_X6_13 : zFl "SchemaSubjectsModel" 13 7 2 RX6 TX6 23 tyX6 := ⟨rfl, zin_7, tyX6_ok, nmX6, by decide, "SchemaSubjectsModel", zw736, Or.inl rfl⟩
theorem fl_X6_16 : zFl "SchemaSubjectsModel" 16 7 3 RX6 TX6 23 tyX6 := ⟨rfl, zin_7, tyX6_ok, nmX6, by decide, "SchemaSubjectsModel", zw737, Or.inl rfl⟩
theorem fl_X6_19 : zFl "SchemaSubjectsModel" 19 7 4 RX6 TX6 23 tyX6 := ⟨rfl, zin_7, tyX6_ok, nmX6, by decide, "SchemaSubjectsModel", zw738, Or.inl rfl⟩
theorem fl_X6_22 : zFl "SchemaSubjectsModel" 22 7 5 RX6 TX6 23 tyX6 := ⟨rfl, zin_7, tyX6_ok, nmX6, by decide, "SchemaSubjectsModel", zw739, Or.inl rfl⟩
theorem fl_X6_26 : zFl "SchemaSubjectsModel" 26 7 6 RX6 TX6 23 tyX6 := ⟨rfl, zin_7, tyX6_ok, nmX6, by decide, "SchemaSubjectsModel", zw740, Or.inl rfl⟩
theorem fl_X6_29 : zFl "SchemaSubjectsModel" 29 7 7 RX6 TX6 23 tyX6 := ⟨rfl, zin_7, tyX6_ok, nmX6, by decide, "SchemaSubjectsModel", zw741, Or.inl rfl⟩
theorem fl_X6_32 : zFl "SchemaSubjectsModel" 32 7 8 RX6 TX6 23 tyX6 := ⟨rfl, zin_7, tyX6_ok, nmX6, by decide, "SchemaSubjectsModel", zw742, Or.inl rfl⟩
theorem fl_X6_35 : zFl "SchemaSubjectsModel" 35 7 10 RX6 TX6 23 tyX6 := ⟨rfl, zin_7, tyX6_ok, nmX6, by decide, "SchemaSubjectsModel", zw744, Or.inl rfl⟩
theorem fl_X6_38 : zFl "SchemaSubjectsModel" 38 7 11 RX6 TX6 23 tyX6 := ⟨rfl, zin_7, tyX6_ok, nmX6, by decide, "SchemaSubjectsModel", zw745, Or.inl rfl⟩
theorem fl_X6_41 : zFl "SchemaSubjectsModel" 41 7 12 RX6 TX6 23 tyX6 := ⟨rfl, zin_7, tyX6_ok, nmX6, by decide, "SchemaSubjectsModel", zw746, Or.inl rfl⟩
theorem fl_X6_44 : zFl "SchemaSubjectsModel" 44 7 13 RX6 TX6 23 tyX6 := ⟨rfl, zin_7, tyX6_ok, nmX6, by decide, "SchemaSubjectsModel", zw747, Or.inl rfl⟩
theorem fl_X6_47 : zFl "SchemaSubjectsModel" 47 7 14 RX6 TX6 23 tyX6 := ⟨rfl, zin_7, tyX6_ok, nmX6, by decide, "SchemaSubjectsModel", zw748, Or.inl rfl⟩
theorem fl_X6_50 : zFl "SchemaSubjectsModel" 50 7 15 RX6 TX6 23 tyX6 := ⟨rfl, zin_7, tyX6_ok, nmX6, by decide, "SchemaSubjectsModel", zw749, Or.inl rfl⟩
theorem fl_X6_53 : zFl "SchemaSubjectsModel" 53 7 17 RX6 TX6 23 tyX6 := ⟨rfl, zin_7, tyX6_ok, nmX6, by decide, "SchemaSubjectsModel", zw751, Or.inl rfl⟩
theorem fl_X6_56 : zFl "SchemaSubjectsModel" 56 7 18 RX6 TX6 23 tyX6 := ⟨rfl, zin_7, tyX6_ok, nmX6, by decide, "SchemaSubjectsModel", zw752, Or.inl rfl⟩
theorem fl_X6_59 : zFl "SchemaSubjectsModel" 59 7 19 RX6 TX6 23 tyX6 := ⟨rfl, zin_7, tyX6_ok, nmX6, by decide, "SchemaSubjectsModel", zw753, Or.inl rfl⟩
theorem fl_X6_62 : zFl "SchemaSubjectsModel" 62 7 20 RX6 TX6 23 tyX6 := ⟨rfl, zin_7, tyX6_ok, nmX6, by decide, "SchemaSubjectsModel", zw754, Or.inl rfl⟩
theorem fl_X6_65 : zFl "SchemaSubjectsModel" 65 7 21 RX6 TX6 23 tyX6 := ⟨rfl, zin_7, tyX6_ok, nmX6, by decide, "SchemaSubjectsModel", zw755, Or.inl rfl⟩
theorem fl_X6_68 : zFl "SchemaSubjectsModel" 68 7 22 RX6 TX6 23 tyX6 := ⟨rfl, zin_7, tyX6_ok, nmX6, by decide, "SchemaSubjectsModel", zw756, Or.inl rfl⟩
theorem fl_X6_71 : zFl "SchemaSubjectsModel" 71 7 0 RX6 TX6 23 tyX6 := ⟨rfl, zin_7, tyX6_ok, nmX6, by decide, "SchemaSubjectsModel", zw734, Or.inl rfl⟩
theorem ks_X6_75 : zCs "SchemaSubjectsModel" 75 yX6_in cX6_in 3 (some .boolean) 3 := ⟨⟨zw821, zw822, zw53, zw823⟩, by decide, by decide, by decide +kernel⟩
theorem kv_X6_79 : zCv "SchemaSubjectsModel" 79 "SchemaSubjectsModel" yX6_isVersion cX6_isVersion 3 (some .boolean) 2 := ⟨⟨zw828, zw830, zw16, zw53, zw831⟩, rfl, by decide, by decide, by decide +kernel⟩
theorem kv_X6_94 : zCv "SchemaSubjectsModel" 94 "SchemaSubjectsModel" yX6_named cX6_named 4 (some .int) 2 := ⟨⟨zw836, zw838, zw18, zw53, zw839⟩, rfl, by decide, by decide, by decide +kernel⟩
theorem kv_X6_90 : zCv "SchemaSubjectsModel" 90 "SchemaSubjectsModel" yX6_schemaOf cX6_schemaOf 2 (some .int) 1 := ⟨⟨zw832, zw834, zw17, zw53, zw835⟩, rfl, by decide, by decide, by decide +kernel⟩
theorem kv_X6_87 : zCv "SchemaSubjectsModel" 87 "SchemaSubjectsModel" yX6_isThereAt cX6_isThereAt 3 (some .boolean) 2 := ⟨⟨zw824, zw826, zw15, zw53, zw827⟩, rfl, by decide, by decide, by decide +kernel⟩
theorem kv_X6_83 : zCv "SchemaSubjectsModel" 83 "SchemaSubjectsModel" yX6_isRange cX6_isRange 6 (some .boolean) 4 := ⟨⟨zw817, zw819, zw14, zw53, zw820⟩, rfl, by decide, by decide, by decide +kernel⟩
theorem kv_X6_98 : zCv "SchemaSubjectsModel" 98 "SchemaSubjectsModel" yX6_errorOfField cX6_errorOfField 7 (some .int) 4 := ⟨⟨zw813, zw815, zw13, zw53, zw816⟩, rfl, by decide, by decide, by decide +kernel⟩
theorem kv_X6_102 : zCv "SchemaSubjectsModel" 102 "SchemaSubjectsModel" yX6_holds cX6_holds 2 (some .boolean) 1 := ⟨⟨zw840, zw842, zw19, zw53, zw843⟩, rfl, by decide, by decide, by decide +kernel⟩
theorem kv_X6_106 : zCv "SchemaSubjectsModel" 106 "SchemaSubjectsModel" yX6_isValue cX6_isValue 4 (some .boolean) 2 := ⟨⟨zw848, zw850, zw20, zw53, zw851⟩, rfl, by decide, by decide, by decide +kernel⟩
theorem kv_X6_109 : zCv "SchemaSubjectsModel" 109 "SchemaSubjectsModel" yX6_empties cX6_empties 1 none 0 := ⟨⟨zw856, zw858, zw21, zw53, zw859⟩, rfl, by decide, by decide, by decide +kernel⟩
theorem kv_X6_112 : zCv "SchemaSubjectsModel" 112 "SchemaSubjectsModel" yX6_source cX6_source 4 (some .int) 2 := ⟨⟨zw879, zw881, zw25, zw53, zw882⟩, rfl, by decide, by decide, by decide +kernel⟩
theorem kv_X6_115 : zCv "SchemaSubjectsModel" 115 "SchemaSubjectsModel" yX6_isRead cX6_isRead 5 (some .boolean) 2 := ⟨⟨zw883, zw885, zw26, zw53, zw886⟩, rfl, by decide, by decide, by decide +kernel⟩
theorem fl_X6_118 : zFl "SchemaSubjectsModel" 118 7 9 RX6 TX6 23 tyX6 := ⟨rfl, zin_7, tyX6_ok, nmX6, by decide, "SchemaSubjectsModel", zw743, Or.inl rfl⟩
theorem kv_X6_121 : zCv "SchemaSubjectsModel" 121 "SchemaSubjectsModel" yX6_canReadNow cX6_canReadNow 6 (some .boolean) 2 := ⟨⟨zw875, zw877, zw24, zw53, zw878⟩, rfl, by decide, by decide, by decide +kernel⟩
theorem kv_X6_124 : zCv "SchemaSubjectsModel" 124 "SchemaSubjectsModel" yX6_tells cX6_tells 5 none 0 := ⟨⟨zw871, zw873, zw23, zw53, zw874⟩, rfl, by decide, by decide, by decide +kernel⟩
theorem kv_X6_130 : zCv "SchemaSubjectsModel" 130 "SchemaSubjectsModel" yX6_isAcceptedBy cX6_isAcceptedBy 6 (some .boolean) 1 := ⟨⟨zw867, zw869, zw22, zw53, zw870⟩, rfl, by decide, by decide, by decide +kernel⟩
theorem ks_X6_127 : zCs "SchemaSubjectsModel" 127 yX6_isSubject cX6_isSubject 1 (some .boolean) 1 := ⟨⟨zw864, zw865, zw53, zw866⟩, by decide, by decide, by decide +kernel⟩
theorem kv_X6_133 : zCv "SchemaSubjectsModel" 133 "SchemaSubjectsModel" yX6_isLike cX6_isLike 6 (some .boolean) 1 := ⟨⟨zw899, zw901, zw29, zw53, zw902⟩, rfl, by decide, by decide, by decide +kernel⟩
theorem kv_X6_136 : zCv "SchemaSubjectsModel" 136 "SchemaSubjectsModel" yX6_likeVersion cX6_likeVersion 3 (some .int) 1 := ⟨⟨zw895, zw897, zw28, zw53, zw898⟩, rfl, by decide, by decide, by decide +kernel⟩
theorem kv_X6_139 : zCv "SchemaSubjectsModel" 139 "SchemaSubjectsModel" yX6_errorOfRegister cX6_errorOfRegister 2 (some .int) 1 := ⟨⟨zw891, zw893, zw27, zw53, zw894⟩, rfl, by decide, by decide, by decide +kernel⟩
theorem kv_X6_142 : zCv "SchemaSubjectsModel" 142 "SchemaSubjectsModel" yX6_numbered cX6_numbered 4 (some .int) 0 := ⟨⟨zw903, zw905, zw30, zw53, zw906⟩, rfl, by decide, by decide, by decide +kernel⟩
theorem kv_X6_146 : zCv "SchemaSubjectsModel" 146 "SchemaSubjectsModel" yX6_refers cX6_refers 4 (some .boolean) 2 := ⟨⟨zw923, zw925, zw33, zw53, zw926⟩, rfl, by decide, by decide, by decide +kernel⟩
theorem kv_X6_149 : zCv "SchemaSubjectsModel" 149 "SchemaSubjectsModel" yX6_isReferred cX6_isReferred 3 (some .boolean) 1 := ⟨⟨zw919, zw921, zw32, zw53, zw922⟩, rfl, by decide, by decide, by decide +kernel⟩
theorem kv_X6_152 : zCv "SchemaSubjectsModel" 152 "SchemaSubjectsModel" yX6_errorOfDelete cX6_errorOfDelete 5 (some .int) 3 := ⟨⟨zw915, zw917, zw31, zw53, zw918⟩, rfl, by decide, by decide, by decide +kernel⟩
theorem kv_X6_156 : zCv "SchemaSubjectsModel" 156 "SchemaSubjectsModel" yX6_isAsked cX6_isAsked 3 (some .boolean) 2 := ⟨⟨zw935, zw937, zw34, zw53, zw938⟩, rfl, by decide, by decide, by decide +kernel⟩
theorem kv_X6_159 : zCv "SchemaSubjectsModel" 159 "SchemaSubjectsModel" yX6_errorOfBoth cX6_errorOfBoth 6 (some .int) 4 := ⟨⟨zw951, zw953, zw35, zw53, zw954⟩, rfl, by decide, by decide, by decide +kernel⟩
theorem kv_X6_162 : zCv "SchemaSubjectsModel" 162 "SchemaSubjectsModel" yX6_canOf cX6_canOf 5 (some .boolean) 4 := ⟨⟨zw955, zw957, zw36, zw53, zw958⟩, rfl, by decide, by decide, by decide +kernel⟩
theorem kv_X6_165 : zCv "SchemaSubjectsModel" 165 "SchemaSubjectsModel" yX6_small cX6_small 6 (some .int) 1 := ⟨⟨zw963, zw965, zw37, zw53, zw966⟩, rfl, by decide, by decide, by decide +kernel⟩
theorem fl_X6_168 : zFl "SchemaSubjectsModel" 168 7 16 RX6 TX6 23 tyX6 := ⟨rfl, zin_7, tyX6_ok, nmX6, by decide, "SchemaSubjectsModel", zw750, Or.inl rfl⟩
theorem kv_X6_171 : zCv "SchemaSubjectsModel" 171 "SchemaSubjectsModel" yX6_isRecordOf cX6_isRecordOf 6 (some .boolean) 1 := ⟨⟨zw979, zw981, zw38, zw53, zw982⟩, rfl, by decide, by decide, by decide +kernel⟩
theorem kv_X6_174 : zCv "SchemaSubjectsModel" 174 "SchemaSubjectsModel" yX6_ahead cX6_ahead 5 (some .int) 2 := ⟨⟨zw991, zw993, zw40, zw53, zw994⟩, rfl, by decide, by decide, by decide +kernel⟩
theorem kv_X6_177 : zCv "SchemaSubjectsModel" 177 "SchemaSubjectsModel" yX6_reads cX6_reads 12 (some .int) 2 := ⟨⟨zw987, zw989, zw39, zw53, zw990⟩, rfl, by decide, by decide, by decide +kernel⟩
