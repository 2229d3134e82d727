/-! ===== small rows for the generated walks; certificates out of the tables ===== -/
theorem z_catR {r : Option Nat} : (va_rf r).category = 1 := by cases r <;> rfl
theorem z_catI {x : Int32} : (Value.int x).category = 1 := rfl
theorem z_catF {x : Nat} : (Value.ref x).category = 1 := rfl
theorem z_catN : Value.null.category = 1 := rfl
theorem z_fz {x : Int32} (h : x = 0 ∨ x = 1) : fits .boolean (.int x) = true := by rcases h with rfl | rfl <;> rfl
theorem z_no {n : String} (r : Option Nat) : narrow (.object n) (va_rf r) = va_rf r := by cases r <;> rfl
theorem z_na {t : FieldType} (r : Option Nat) : narrow (.array t) (va_rf r) = va_rf r := by cases r <;> rfl
theorem z_fo {n : String} (r : Option Nat) : fits (.object n) (va_rf r) = true := by cases r <;> rfl
theorem z_fa {t : FieldType} (r : Option Nat) : fits (.array t) (va_rf r) = true := by cases r <;> rfl
theorem z_enter {m : MethodId} {n : Nat} {vs : List Value} {l : List (Nat × Value)} (h1 : (lg_sl vs).length ≤ n) (h2 : lv_args 0 vs = l) : ∃ ls, entryFrame m vs.toArray n = F0 m 0 ls [] ∧ lv_has ls n l :=
  ⟨_, lg_entry_eq m vs n, by rw [← h2]; exact lv_entry vs h1⟩
theorem z_in {ws : List Cond} (ps : List Nat) (hp : ws = ps.filterMap (fun i => lw_tbl[i]?)) (h : ws.all zgood = true) : ∀ w ∈ ws, w ∈ zG := by
  intro w hw
  have h1 := List.all_eq_true.mp h w hw
  rw [hp] at hw
  obtain ⟨i, -, hi⟩ := List.mem_filterMap.mp hw
  exact z_g i hi h1

theorem zin_0 : ∀ w ∈ u_ws RJx4a65c TJx4a65c 3, w ∈ zG := z_in [66, 62, 64] (by decide +kernel) (by decide +kernel)
theorem vc_0 : vwCl[0]? = some (RJx4a65c, TJx4a65c, 3) := rfl
theorem zd_0 : ∀ j, j < 3 → defaultValue (tyJx4a65c j) = vp_V [.int 0, .null, .int 0] j := by decide +kernel
theorem zin_1 : ∀ w ∈ u_ws RX0 TX0 9, w ∈ zG := z_in [403, 405, 407, 409, 411, 413, 415, 417, 419] (by decide +kernel) (by decide +kernel)
theorem vc_1 : vwCl[1]? = some (RX0, TX0, 9) := rfl
theorem zd_1 : ∀ j, j < 9 → defaultValue (tyX0 j) = vp_V [.int 0, .int 0, .int 0, .int 0, .int 0, .null, .int 0, .int 0, .int 0] j := by decide +kernel
theorem zin_2 : ∀ w ∈ u_ws RX1 TX1 2, w ∈ zG := z_in [163, 165] (by decide +kernel) (by decide +kernel)
theorem vc_2 : vwCl[2]? = some (RX1, TX1, 2) := rfl
theorem zd_2 : ∀ j, j < 2 → defaultValue (tyX1 j) = vp_V [.null, .int 0] j := by decide +kernel
theorem zin_3 : ∀ w ∈ u_ws RX2 TX2 3, w ∈ zG := z_in [175, 177, 179] (by decide +kernel) (by decide +kernel)
theorem vc_3 : vwCl[3]? = some (RX2, TX2, 3) := rfl
theorem zd_3 : ∀ j, j < 3 → defaultValue (tyX2 j) = vp_V [.null, .null, .int 0] j := by decide +kernel
theorem zin_4 : ∀ w ∈ u_ws RX3 TX3 3, w ∈ zG := z_in [83, 85, 87] (by decide +kernel) (by decide +kernel)
theorem vc_4 : vwCl[4]? = some (RX3, TX3, 3) := rfl
theorem zd_4 : ∀ j, j < 3 → defaultValue (tyX3 j) = vp_V [.null, .int 0, .int 0] j := by decide +kernel
theorem zin_5 : ∀ w ∈ u_ws RX4 TX4 2, w ∈ zG := z_in [548, 550] (by decide +kernel) (by decide +kernel)
theorem vc_5 : vwCl[5]? = some (RX4, TX4, 2) := rfl
theorem zd_5 : ∀ j, j < 2 → defaultValue (tyX4 j) = vp_V [.null, .int 0] j := by decide +kernel
theorem zin_6 : ∀ w ∈ u_ws RX5 TX5 6, w ∈ zG := z_in [190, 192, 194, 196, 198, 200] (by decide +kernel) (by decide +kernel)
theorem vc_6 : vwCl[6]? = some (RX5, TX5, 6) := rfl
theorem zd_6 : ∀ j, j < 6 → defaultValue (tyX5 j) = vp_V [.null, .null, .null, .null, .null, .null] j := by decide +kernel
theorem zw0 : Cond.selects "java/util/ArrayList" ({ cls := "java/util/ArrayList", name := "add", desc := "(Ljava/lang/Object;[Ljava/lang/Object;I)V" }) ({ cls := "java/util/ArrayList", name := "add", desc := "(Ljava/lang/Object;[Ljava/lang/Object;I)V" }) ∈ zG := z_g 0 (by decide +kernel) (by decide +kernel)
theorem zw1 : Cond.selects "java/util/ArrayList" ({ cls := "java/util/ArrayList", name := "grow", desc := "()[Ljava/lang/Object;" }) ({ cls := "java/util/ArrayList", name := "grow", desc := "()[Ljava/lang/Object;" }) ∈ zG := z_g 1 (by decide +kernel) (by decide +kernel)
theorem zw2 : Cond.selects "java/util/ArrayList" ({ cls := "java/util/ArrayList", name := "grow", desc := "(I)[Ljava/lang/Object;" }) ({ cls := "java/util/ArrayList", name := "grow", desc := "(I)[Ljava/lang/Object;" }) ∈ zG := z_g 2 (by decide +kernel) (by decide +kernel)
theorem zw4 : Cond.selects "SchemaSubjects" ({ cls := "SchemaSubjects", name := "referable", desc := "(I)LSchemaSubjects$Schema;" }) ({ cls := "SchemaSubjects", name := "referable", desc := "(I)LSchemaSubjects$Schema;" }) ∈ zG := z_g 4 (by decide +kernel) (by decide +kernel)
theorem zw5 : Cond.selects "SchemaSubjects" ({ cls := "SchemaSubjects", name := "demandedSubject", desc := "(I)LSchemaSubjects$Subject;" }) ({ cls := "SchemaSubjects", name := "demandedSubject", desc := "(I)LSchemaSubjects$Subject;" }) ∈ zG := z_g 5 (by decide +kernel) (by decide +kernel)
theorem zw6 : Cond.selects "SchemaSubjects" ({ cls := "SchemaSubjects", name := "demandDraft", desc := "()V" }) ({ cls := "SchemaSubjects", name := "demandDraft", desc := "()V" }) ∈ zG := z_g 6 (by decide +kernel) (by decide +kernel)
theorem zw7 : Cond.selects "SchemaSubjects$Subject" ({ cls := "SchemaSubjects$Subject", name := "agrees", desc := "(LSchemaSubjects$Schema;LSchemaSubjects$Schema;)Z" }) ({ cls := "SchemaSubjects$Subject", name := "agrees", desc := "(LSchemaSubjects$Schema;LSchemaSubjects$Schema;)Z" }) ∈ zG := z_g 7 (by decide +kernel) (by decide +kernel)
theorem zw8 : Cond.selects "SchemaSubjects" ({ cls := "SchemaSubjects", name := "takeDraft", desc := "()LSchemaSubjects$Schema;" }) ({ cls := "SchemaSubjects", name := "takeDraft", desc := "()LSchemaSubjects$Schema;" }) ∈ zG := z_g 8 (by decide +kernel) (by decide +kernel)
theorem zw9 : Cond.selects "SchemaSubjects" ({ cls := "SchemaSubjects", name := "isReferredTo", desc := "(I)Z" }) ({ cls := "SchemaSubjects", name := "isReferredTo", desc := "(I)Z" }) ∈ zG := z_g 9 (by decide +kernel) (by decide +kernel)
theorem zw10 : Cond.selects "SchemaSubjects" ({ cls := "SchemaSubjects", name := "demandedSchema", desc := "(II)LSchemaSubjects$Schema;" }) ({ cls := "SchemaSubjects", name := "demandedSchema", desc := "(II)LSchemaSubjects$Schema;" }) ∈ zG := z_g 10 (by decide +kernel) (by decide +kernel)
theorem zw11 : Cond.selects "SchemaSubjects" ({ cls := "SchemaSubjects", name := "isRecordOf", desc := "(LSchemaSubjects$Schema;)Z" }) ({ cls := "SchemaSubjects", name := "isRecordOf", desc := "(LSchemaSubjects$Schema;)Z" }) ∈ zG := z_g 11 (by decide +kernel) (by decide +kernel)
theorem zw12 : Cond.selects "SchemaSubjects" ({ cls := "SchemaSubjects", name := "demandSubjects", desc := "(II)V" }) ({ cls := "SchemaSubjects", name := "demandSubjects", desc := "(II)V" }) ∈ zG := z_g 12 (by decide +kernel) (by decide +kernel)
theorem zw13 : (Jvm.Cond.initialized "SchemaSubjectsLaw") ∈ zG := z_g 13 (by decide +kernel) (by decide +kernel)
theorem zw14 : (Jvm.Cond.initialized "SchemaSubjects") ∈ zG := z_g 14 (by decide +kernel) (by decide +kernel)
theorem zw15 : (Jvm.Cond.initialized "java/util/AbstractCollection") ∈ zG := z_g 15 (by decide +kernel) (by decide +kernel)
theorem zw16 : (Jvm.Cond.initialized "java/util/AbstractList") ∈ zG := z_g 16 (by decide +kernel) (by decide +kernel)
theorem zw17 : (Jvm.Cond.initialized "java/util/ArrayList") ∈ zG := z_g 17 (by decide +kernel) (by decide +kernel)
theorem zw18 : (Jvm.Cond.initialized "SchemaSubjects$Subject") ∈ zG := z_g 18 (by decide +kernel) (by decide +kernel)
theorem zw19 : (Jvm.Cond.initialized "jdk/internal/util/ArraysSupport") ∈ zG := z_g 19 (by decide +kernel) (by decide +kernel)
theorem zw20 : (Jvm.Cond.initialized "java/lang/Math") ∈ zG := z_g 20 (by decide +kernel) (by decide +kernel)
theorem zw21 : (Jvm.Cond.initialized "java/util/Arrays") ∈ zG := z_g 21 (by decide +kernel) (by decide +kernel)
theorem zw22 : (Jvm.Cond.initialized "java/lang/System") ∈ zG := z_g 22 (by decide +kernel) (by decide +kernel)
theorem zw23 : (Jvm.Cond.initialized "SchemaSubjects$Schema") ∈ zG := z_g 23 (by decide +kernel) (by decide +kernel)
theorem zw24 : (Jvm.Cond.initialized "SchemaSubjects$Row") ∈ zG := z_g 24 (by decide +kernel) (by decide +kernel)
theorem zw28 : (Jvm.Cond.initialized "java/lang/IllegalArgumentException") ∈ zG := z_g 28 (by decide +kernel) (by decide +kernel)
theorem zw29 : (Jvm.Cond.initialized "java/util/Objects") ∈ zG := z_g 29 (by decide +kernel) (by decide +kernel)
theorem zw30 : (Jvm.Cond.initialized "jdk/internal/util/Preconditions") ∈ zG := z_g 30 (by decide +kernel) (by decide +kernel)
theorem zw31 : (Jvm.Cond.initialized "java/lang/IndexOutOfBoundsException") ∈ zG := z_g 31 (by decide +kernel) (by decide +kernel)
theorem zw32 : (Jvm.Cond.initialized "java/lang/IllegalStateException") ∈ zG := z_g 32 (by decide +kernel) (by decide +kernel)
theorem zw33 : (Jvm.Cond.initialized "SchemaSubjects$Field") ∈ zG := z_g 33 (by decide +kernel) (by decide +kernel)
theorem zw34 : (Jvm.Cond.initialized "SchemaSubjects$Version") ∈ zG := z_g 34 (by decide +kernel) (by decide +kernel)
theorem zw35 : (Jvm.Cond.classLink "SchemaSubjectsLaw" (9 : Nat) "SchemaSubjects") ∈ zG := z_g 35 (by decide +kernel) (by decide +kernel)
theorem zw36 : (Jvm.Cond.instantiable "SchemaSubjects" (6 : Nat)) ∈ zG := z_g 36 (by decide +kernel) (by decide +kernel)
theorem zw37 : (Jvm.Cond.methodLink "SchemaSubjectsLaw" (91 : Nat) ({ cls := "SchemaSubjects", name := "<init>", desc := "()V" } : Jvm.MethodName)) ∈ zG := z_g 37 (by decide +kernel) (by decide +kernel)
theorem zw38 : (Jvm.Cond.instanceMethod ({ cls := "SchemaSubjects", name := "<init>", desc := "()V" } : Jvm.MethodName)) ∈ zG := z_g 38 (by decide +kernel) (by decide +kernel)
theorem zw39 : (Jvm.Cond.code ({ cls := "SchemaSubjects", name := "<init>", desc := "()V" } : Jvm.MethodName) prog_1_method_1_code (2 : Nat) (Option.none : Option Jvm.ClassFile.FieldType)) ∈ zG := z_g 39 (by decide +kernel) (by decide +kernel)
theorem zw40 : (Jvm.Cond.methodLink "SchemaSubjects" (1 : Nat) ({ cls := "java/lang/Object", name := "<init>", desc := "()V" } : Jvm.MethodName)) ∈ zG := z_g 40 (by decide +kernel) (by decide +kernel)
theorem zw41 : (Jvm.Cond.instanceMethod ({ cls := "java/lang/Object", name := "<init>", desc := "()V" } : Jvm.MethodName)) ∈ zG := z_g 41 (by decide +kernel) (by decide +kernel)
theorem zw42 : (Jvm.Cond.code ({ cls := "java/lang/Object", name := "<init>", desc := "()V" } : Jvm.MethodName) object_method_1_code (1 : Nat) (Option.none : Option Jvm.ClassFile.FieldType)) ∈ zG := z_g 42 (by decide +kernel) (by decide +kernel)
theorem zw43 : (Jvm.Cond.classLink "SchemaSubjects" (7 : Nat) "java/util/ArrayList") ∈ zG := z_g 43 (by decide +kernel) (by decide +kernel)
theorem zw44 : (Jvm.Cond.instantiable "java/util/ArrayList" (3 : Nat)) ∈ zG := z_g 44 (by decide +kernel) (by decide +kernel)
theorem zw45 : (Jvm.Cond.methodLink "SchemaSubjects" (9 : Nat) ({ cls := "java/util/ArrayList", name := "<init>", desc := "()V" } : Jvm.MethodName)) ∈ zG := z_g 45 (by decide +kernel) (by decide +kernel)
theorem zw46 : (Jvm.Cond.instanceMethod ({ cls := "java/util/ArrayList", name := "<init>", desc := "()V" } : Jvm.MethodName)) ∈ zG := z_g 46 (by decide +kernel) (by decide +kernel)
theorem zw47 : (Jvm.Cond.code ({ cls := "java/util/ArrayList", name := "<init>", desc := "()V" } : Jvm.MethodName) prog_23_method_2_code (1 : Nat) (Option.none : Option Jvm.ClassFile.FieldType)) ∈ zG := z_g 47 (by decide +kernel) (by decide +kernel)
theorem zw48 : (Jvm.Cond.methodLink "java/util/ArrayList" (1 : Nat) ({ cls := "java/util/AbstractList", name := "<init>", desc := "()V" } : Jvm.MethodName)) ∈ zG := z_g 48 (by decide +kernel) (by decide +kernel)
theorem zw49 : (Jvm.Cond.instanceMethod ({ cls := "java/util/AbstractList", name := "<init>", desc := "()V" } : Jvm.MethodName)) ∈ zG := z_g 49 (by decide +kernel) (by decide +kernel)
theorem zw50 : (Jvm.Cond.code ({ cls := "java/util/AbstractList", name := "<init>", desc := "()V" } : Jvm.MethodName) prog_22_method_1_code (1 : Nat) (Option.none : Option Jvm.ClassFile.FieldType)) ∈ zG := z_g 50 (by decide +kernel) (by decide +kernel)
theorem zw51 : (Jvm.Cond.methodLink "java/util/AbstractList" (1 : Nat) ({ cls := "java/util/AbstractCollection", name := "<init>", desc := "()V" } : Jvm.MethodName)) ∈ zG := z_g 51 (by decide +kernel) (by decide +kernel)
theorem zw52 : (Jvm.Cond.instanceMethod ({ cls := "java/util/AbstractCollection", name := "<init>", desc := "()V" } : Jvm.MethodName)) ∈ zG := z_g 52 (by decide +kernel) (by decide +kernel)
theorem zw53 : (Jvm.Cond.code ({ cls := "java/util/AbstractCollection", name := "<init>", desc := "()V" } : Jvm.MethodName) prog_21_method_1_code (1 : Nat) (Option.none : Option Jvm.ClassFile.FieldType)) ∈ zG := z_g 53 (by decide +kernel) (by decide +kernel)
theorem zw54 : (Jvm.Cond.methodLink "java/util/AbstractCollection" (1 : Nat) ({ cls := "java/lang/Object", name := "<init>", desc := "()V" } : Jvm.MethodName)) ∈ zG := z_g 54 (by decide +kernel) (by decide +kernel)
theorem zw55 : (Jvm.Cond.fieldLink "java/util/ArrayList" (39 : Nat) "java/util/ArrayList" "DEFAULTCAPACITY_EMPTY_ELEMENTDATA" "[Ljava/lang/Object;") ∈ zG := z_g 55 (by decide +kernel) (by decide +kernel)
theorem zw57 : (Jvm.Cond.fieldLink "java/util/ArrayList" (9 : Nat) "java/util/ArrayList" "elementData" "[Ljava/lang/Object;") ∈ zG := z_g 57 (by decide +kernel) (by decide +kernel)
theorem zw58 : (Jvm.Cond.fieldLink "java/util/ArrayList" (48 : Nat) "java/util/ArrayList" "size" "I") ∈ zG := z_g 58 (by decide +kernel) (by decide +kernel)
theorem zw59 : (Jvm.Cond.fieldLink "java/util/AbstractList" (7 : Nat) "java/util/AbstractList" "modCount" "I") ∈ zG := z_g 59 (by decide +kernel) (by decide +kernel)
theorem zw60 : (Jvm.Cond.fieldLink "java/util/ArrayList" (63 : Nat) "java/util/ArrayList" "modCount" "I") ∈ zG := z_g 60 (by decide +kernel) (by decide +kernel)
theorem zw61 : (Jvm.Cond.sameField "java/util/ArrayList" "java/util/AbstractList" "modCount" "I") ∈ zG := z_g 61 (by decide +kernel) (by decide +kernel)
theorem zw69 : (Jvm.Cond.classLink "SchemaSubjects" (16 : Nat) "SchemaSubjects$Subject") ∈ zG := z_g 69 (by decide +kernel) (by decide +kernel)
theorem zw70 : (Jvm.Cond.instantiable "SchemaSubjects$Subject" (3 : Nat)) ∈ zG := z_g 70 (by decide +kernel) (by decide +kernel)
theorem zw71 : (Jvm.Cond.methodLink "SchemaSubjects" (18 : Nat) ({ cls := "SchemaSubjects$Subject", name := "<init>", desc := "()V" } : Jvm.MethodName)) ∈ zG := z_g 71 (by decide +kernel) (by decide +kernel)
theorem zw72 : (Jvm.Cond.instanceMethod ({ cls := "SchemaSubjects$Subject", name := "<init>", desc := "()V" } : Jvm.MethodName)) ∈ zG := z_g 72 (by decide +kernel) (by decide +kernel)
theorem zw73 : (Jvm.Cond.code ({ cls := "SchemaSubjects$Subject", name := "<init>", desc := "()V" } : Jvm.MethodName) prog_5_method_1_code (1 : Nat) (Option.none : Option Jvm.ClassFile.FieldType)) ∈ zG := z_g 73 (by decide +kernel) (by decide +kernel)
theorem zw74 : (Jvm.Cond.methodLink "SchemaSubjects$Subject" (3 : Nat) ({ cls := "java/lang/Object", name := "<init>", desc := "()V" } : Jvm.MethodName)) ∈ zG := z_g 74 (by decide +kernel) (by decide +kernel)
theorem zw75 : (Jvm.Cond.classLink "SchemaSubjects$Subject" (9 : Nat) "java/util/ArrayList") ∈ zG := z_g 75 (by decide +kernel) (by decide +kernel)
theorem zw76 : (Jvm.Cond.methodLink "SchemaSubjects$Subject" (11 : Nat) ({ cls := "java/util/ArrayList", name := "<init>", desc := "()V" } : Jvm.MethodName)) ∈ zG := z_g 76 (by decide +kernel) (by decide +kernel)
theorem zw77 : (Jvm.Cond.fieldLink "SchemaSubjects$Subject" (12 : Nat) "SchemaSubjects$Subject" "history" "Ljava/util/ArrayList;") ∈ zG := z_g 77 (by decide +kernel) (by decide +kernel)
theorem zw78 : (Jvm.Cond.fieldLink "SchemaSubjects" (155 : Nat) "SchemaSubjects$Subject" "history" "Ljava/util/ArrayList;") ∈ zG := z_g 78 (by decide +kernel) (by decide +kernel)
theorem zw79 : (Jvm.Cond.fieldLink "SchemaSubjects$Subject" (54 : Nat) "SchemaSubjects$Subject" "mode" "I") ∈ zG := z_g 79 (by decide +kernel) (by decide +kernel)
theorem zw80 : (Jvm.Cond.fieldLink "SchemaSubjects" (171 : Nat) "SchemaSubjects$Subject" "mode" "I") ∈ zG := z_g 80 (by decide +kernel) (by decide +kernel)
theorem zw81 : (Jvm.Cond.fieldLink "SchemaSubjects$Subject" (50 : Nat) "SchemaSubjects$Subject" "asksForAll" "Z") ∈ zG := z_g 81 (by decide +kernel) (by decide +kernel)
theorem zw82 : (Jvm.Cond.fieldLink "SchemaSubjects" (174 : Nat) "SchemaSubjects$Subject" "asksForAll" "Z") ∈ zG := z_g 82 (by decide +kernel) (by decide +kernel)
theorem zw90 : (Jvm.Cond.methodLink "SchemaSubjects" (19 : Nat) ({ cls := "java/util/ArrayList", name := "add", desc := "(Ljava/lang/Object;)Z" } : Jvm.MethodName)) ∈ zG := z_g 90 (by decide +kernel) (by decide +kernel)
theorem zw91 : (Jvm.Cond.instanceMethod ({ cls := "java/util/ArrayList", name := "add", desc := "(Ljava/lang/Object;)Z" } : Jvm.MethodName)) ∈ zG := z_g 91 (by decide +kernel) (by decide +kernel)
theorem zw92 : (Jvm.Cond.selects "java/util/ArrayList" ({ cls := "java/util/ArrayList", name := "add", desc := "(Ljava/lang/Object;)Z" } : Jvm.MethodName) ({ cls := "java/util/ArrayList", name := "add", desc := "(Ljava/lang/Object;)Z" } : Jvm.MethodName)) ∈ zG := z_g 92 (by decide +kernel) (by decide +kernel)
theorem zw93 : (Jvm.Cond.code ({ cls := "java/util/ArrayList", name := "add", desc := "(Ljava/lang/Object;)Z" } : Jvm.MethodName) prog_23_method_25_code (2 : Nat) (Option.some Jvm.ClassFile.FieldType.boolean)) ∈ zG := z_g 93 (by decide +kernel) (by decide +kernel)
theorem zw94 : (Jvm.Cond.methodLink "java/util/ArrayList" (131 : Nat) ({ cls := "java/util/ArrayList", name := "add", desc := "(Ljava/lang/Object;[Ljava/lang/Object;I)V" } : Jvm.MethodName)) ∈ zG := z_g 94 (by decide +kernel) (by decide +kernel)
theorem zw96 : (Jvm.Cond.instanceMethod ({ cls := "java/util/ArrayList", name := "add", desc := "(Ljava/lang/Object;[Ljava/lang/Object;I)V" } : Jvm.MethodName)) ∈ zG := z_g 96 (by decide +kernel) (by decide +kernel)
theorem zw97 : (Jvm.Cond.code ({ cls := "java/util/ArrayList", name := "add", desc := "(Ljava/lang/Object;[Ljava/lang/Object;I)V" } : Jvm.MethodName) prog_23_method_24_code (4 : Nat) (Option.none : Option Jvm.ClassFile.FieldType)) ∈ zG := z_g 97 (by decide +kernel) (by decide +kernel)
theorem zw98 : (Jvm.Cond.methodLink "java/util/ArrayList" (129 : Nat) ({ cls := "java/util/ArrayList", name := "grow", desc := "()[Ljava/lang/Object;" } : Jvm.MethodName)) ∈ zG := z_g 98 (by decide +kernel) (by decide +kernel)
theorem zw100 : (Jvm.Cond.instanceMethod ({ cls := "java/util/ArrayList", name := "grow", desc := "()[Ljava/lang/Object;" } : Jvm.MethodName)) ∈ zG := z_g 100 (by decide +kernel) (by decide +kernel)
theorem zw101 : (Jvm.Cond.code ({ cls := "java/util/ArrayList", name := "grow", desc := "()[Ljava/lang/Object;" } : Jvm.MethodName) prog_23_method_7_code (1 : Nat) (Option.some (Jvm.ClassFile.FieldType.array (Jvm.ClassFile.FieldType.object "java/lang/Object")))) ∈ zG := z_g 101 (by decide +kernel) (by decide +kernel)
theorem zw102 : (Jvm.Cond.methodLink "java/util/ArrayList" (69 : Nat) ({ cls := "java/util/ArrayList", name := "grow", desc := "(I)[Ljava/lang/Object;" } : Jvm.MethodName)) ∈ zG := z_g 102 (by decide +kernel) (by decide +kernel)
theorem zw104 : (Jvm.Cond.instanceMethod ({ cls := "java/util/ArrayList", name := "grow", desc := "(I)[Ljava/lang/Object;" } : Jvm.MethodName)) ∈ zG := z_g 104 (by decide +kernel) (by decide +kernel)
theorem zw105 : (Jvm.Cond.code ({ cls := "java/util/ArrayList", name := "grow", desc := "(I)[Ljava/lang/Object;" } : Jvm.MethodName) prog_23_method_6_code (4 : Nat) (Option.some (Jvm.ClassFile.FieldType.array (Jvm.ClassFile.FieldType.object "java/lang/Object")))) ∈ zG := z_g 105 (by decide +kernel) (by decide +kernel)
theorem zw106 : (Jvm.Cond.methodLink "java/util/ArrayList" (73 : Nat) ({ cls := "jdk/internal/util/ArraysSupport", name := "newLength", desc := "(III)I" } : Jvm.MethodName)) ∈ zG := z_g 106 (by decide +kernel) (by decide +kernel)
theorem zw107 : (Jvm.Cond.static ({ cls := "jdk/internal/util/ArraysSupport", name := "newLength", desc := "(III)I" } : Jvm.MethodName)) ∈ zG := z_g 107 (by decide +kernel) (by decide +kernel)
theorem zw108 : (Jvm.Cond.code ({ cls := "jdk/internal/util/ArraysSupport", name := "newLength", desc := "(III)I" } : Jvm.MethodName) prog_30_method_27_code (4 : Nat) (Option.some Jvm.ClassFile.FieldType.int)) ∈ zG := z_g 108 (by decide +kernel) (by decide +kernel)
theorem zw109 : (Jvm.Cond.methodLink "jdk/internal/util/ArraysSupport" (194 : Nat) ({ cls := "java/lang/Math", name := "max", desc := "(II)I" } : Jvm.MethodName)) ∈ zG := z_g 109 (by decide +kernel) (by decide +kernel)
theorem zw110 : (Jvm.Cond.static ({ cls := "java/lang/Math", name := "max", desc := "(II)I" } : Jvm.MethodName)) ∈ zG := z_g 110 (by decide +kernel) (by decide +kernel)
theorem zw111 : (Jvm.Cond.code ({ cls := "java/lang/Math", name := "max", desc := "(II)I" } : Jvm.MethodName) prog_16_method_65_code (2 : Nat) (Option.some Jvm.ClassFile.FieldType.int)) ∈ zG := z_g 111 (by decide +kernel) (by decide +kernel)
theorem zw112 : (Jvm.Cond.constant "jdk/internal/util/ArraysSupport" (200 : Nat) (2147483639 : Int32)) ∈ zG := z_g 112 (by decide +kernel) (by decide +kernel)
theorem zw116 : (Jvm.Cond.methodLink "java/util/ArrayList" (66 : Nat) ({ cls := "java/util/Arrays", name := "copyOf", desc := "([Ljava/lang/Object;I)[Ljava/lang/Object;" } : Jvm.MethodName)) ∈ zG := z_g 116 (by decide +kernel) (by decide +kernel)
theorem zw117 : (Jvm.Cond.static ({ cls := "java/util/Arrays", name := "copyOf", desc := "([Ljava/lang/Object;I)[Ljava/lang/Object;" } : Jvm.MethodName)) ∈ zG := z_g 117 (by decide +kernel) (by decide +kernel)
theorem zw118 : (Jvm.Cond.code ({ cls := "java/util/Arrays", name := "copyOf", desc := "([Ljava/lang/Object;I)[Ljava/lang/Object;" } : Jvm.MethodName) prog_24_method_119_code (2 : Nat) (Option.some (Jvm.ClassFile.FieldType.array (Jvm.ClassFile.FieldType.object "java/lang/Object")))) ∈ zG := z_g 118 (by decide +kernel) (by decide +kernel)
theorem zw119 : (Jvm.Cond.methodLink "java/util/Arrays" (86 : Nat) ({ cls := "java/lang/Object", name := "getClass", desc := "()Ljava/lang/Class;" } : Jvm.MethodName)) ∈ zG := z_g 119 (by decide +kernel) (by decide +kernel)
theorem zw120 : (Jvm.Cond.instanceMethod ({ cls := "java/lang/Object", name := "getClass", desc := "()Ljava/lang/Class;" } : Jvm.MethodName)) ∈ zG := z_g 120 (by decide +kernel) (by decide +kernel)
theorem zw132 : (Jvm.Cond.native ({ cls := "java/lang/Object", name := "getClass", desc := "()Ljava/lang/Class;" } : Jvm.MethodName)) ∈ zG := z_g 132 (by decide +kernel) (by decide +kernel)
theorem zw133 : (Jvm.Cond.methodLink "java/util/Arrays" (300 : Nat) ({ cls := "java/util/Arrays", name := "copyOf", desc := "([Ljava/lang/Object;ILjava/lang/Class;)[Ljava/lang/Object;" } : Jvm.MethodName)) ∈ zG := z_g 133 (by decide +kernel) (by decide +kernel)
theorem zw134 : (Jvm.Cond.static ({ cls := "java/util/Arrays", name := "copyOf", desc := "([Ljava/lang/Object;ILjava/lang/Class;)[Ljava/lang/Object;" } : Jvm.MethodName)) ∈ zG := z_g 134 (by decide +kernel) (by decide +kernel)
theorem zw135 : (Jvm.Cond.code ({ cls := "java/util/Arrays", name := "copyOf", desc := "([Ljava/lang/Object;ILjava/lang/Class;)[Ljava/lang/Object;" } : Jvm.MethodName) prog_24_method_120_code (4 : Nat) (Option.some (Jvm.ClassFile.FieldType.array (Jvm.ClassFile.FieldType.object "java/lang/Object")))) ∈ zG := z_g 135 (by decide +kernel) (by decide +kernel)
theorem zw136 : (Jvm.Cond.classLink "java/util/Arrays" (110 : Nat) "[Ljava/lang/Object;") ∈ zG := z_g 136 (by decide +kernel) (by decide +kernel)
theorem zw138 : (Jvm.Cond.classLink "java/util/Arrays" (2 : Nat) "java/lang/Object") ∈ zG := z_g 138 (by decide +kernel) (by decide +kernel)
theorem zw139 : (Jvm.Cond.methodLink "java/util/Arrays" (304 : Nat) ({ cls := "java/lang/Math", name := "min", desc := "(II)I" } : Jvm.MethodName)) ∈ zG := z_g 139 (by decide +kernel) (by decide +kernel)
theorem zw140 : (Jvm.Cond.static ({ cls := "java/lang/Math", name := "min", desc := "(II)I" } : Jvm.MethodName)) ∈ zG := z_g 140 (by decide +kernel) (by decide +kernel)
theorem zw141 : (Jvm.Cond.code ({ cls := "java/lang/Math", name := "min", desc := "(II)I" } : Jvm.MethodName) prog_16_method_69_code (2 : Nat) (Option.some Jvm.ClassFile.FieldType.int)) ∈ zG := z_g 141 (by decide +kernel) (by decide +kernel)
theorem zw142 : (Jvm.Cond.methodLink "java/util/Arrays" (150 : Nat) ({ cls := "java/lang/System", name := "arraycopy", desc := "(Ljava/lang/Object;ILjava/lang/Object;II)V" } : Jvm.MethodName)) ∈ zG := z_g 142 (by decide +kernel) (by decide +kernel)
theorem zw143 : (Jvm.Cond.static ({ cls := "java/lang/System", name := "arraycopy", desc := "(Ljava/lang/Object;ILjava/lang/Object;II)V" } : Jvm.MethodName)) ∈ zG := z_g 143 (by decide +kernel) (by decide +kernel)
theorem zw144 : (Jvm.Cond.native ({ cls := "java/lang/System", name := "arraycopy", desc := "(Ljava/lang/Object;ILjava/lang/Object;II)V" } : Jvm.MethodName)) ∈ zG := z_g 144 (by decide +kernel) (by decide +kernel)
theorem zw145 : (Jvm.Cond.methodLink "java/util/ArrayList" (79 : Nat) ({ cls := "java/lang/Math", name := "max", desc := "(II)I" } : Jvm.MethodName)) ∈ zG := z_g 145 (by decide +kernel) (by decide +kernel)
theorem zw146 : (Jvm.Cond.classLink "java/util/ArrayList" (7 : Nat) "java/lang/Object") ∈ zG := z_g 146 (by decide +kernel) (by decide +kernel)
theorem zw147 : (Jvm.Cond.classLink "SchemaSubjects" (26 : Nat) "SchemaSubjects$Schema") ∈ zG := z_g 147 (by decide +kernel) (by decide +kernel)
theorem zw148 : (Jvm.Cond.instantiable "SchemaSubjects$Schema" (3 : Nat)) ∈ zG := z_g 148 (by decide +kernel) (by decide +kernel)
theorem zw149 : (Jvm.Cond.methodLink "SchemaSubjects" (28 : Nat) ({ cls := "SchemaSubjects$Schema", name := "<init>", desc := "()V" } : Jvm.MethodName)) ∈ zG := z_g 149 (by decide +kernel) (by decide +kernel)
theorem zw150 : (Jvm.Cond.instanceMethod ({ cls := "SchemaSubjects$Schema", name := "<init>", desc := "()V" } : Jvm.MethodName)) ∈ zG := z_g 150 (by decide +kernel) (by decide +kernel)
theorem zw151 : (Jvm.Cond.code ({ cls := "SchemaSubjects$Schema", name := "<init>", desc := "()V" } : Jvm.MethodName) prog_4_method_1_code (1 : Nat) (Option.none : Option Jvm.ClassFile.FieldType)) ∈ zG := z_g 151 (by decide +kernel) (by decide +kernel)
theorem zw152 : (Jvm.Cond.methodLink "SchemaSubjects$Schema" (3 : Nat) ({ cls := "java/lang/Object", name := "<init>", desc := "()V" } : Jvm.MethodName)) ∈ zG := z_g 152 (by decide +kernel) (by decide +kernel)
theorem zw153 : (Jvm.Cond.classLink "SchemaSubjects$Schema" (9 : Nat) "java/util/ArrayList") ∈ zG := z_g 153 (by decide +kernel) (by decide +kernel)
theorem zw154 : (Jvm.Cond.methodLink "SchemaSubjects$Schema" (11 : Nat) ({ cls := "java/util/ArrayList", name := "<init>", desc := "()V" } : Jvm.MethodName)) ∈ zG := z_g 154 (by decide +kernel) (by decide +kernel)
theorem zw155 : (Jvm.Cond.classLink "SchemaSubjects$Schema" (18 : Nat) "SchemaSubjects$Row") ∈ zG := z_g 155 (by decide +kernel) (by decide +kernel)
theorem zw156 : (Jvm.Cond.instantiable "SchemaSubjects$Row" (2 : Nat)) ∈ zG := z_g 156 (by decide +kernel) (by decide +kernel)
theorem zw157 : (Jvm.Cond.methodLink "SchemaSubjects$Schema" (20 : Nat) ({ cls := "SchemaSubjects$Row", name := "<init>", desc := "()V" } : Jvm.MethodName)) ∈ zG := z_g 157 (by decide +kernel) (by decide +kernel)
theorem zw158 : (Jvm.Cond.instanceMethod ({ cls := "SchemaSubjects$Row", name := "<init>", desc := "()V" } : Jvm.MethodName)) ∈ zG := z_g 158 (by decide +kernel) (by decide +kernel)
theorem zw159 : (Jvm.Cond.code ({ cls := "SchemaSubjects$Row", name := "<init>", desc := "()V" } : Jvm.MethodName) prog_3_method_1_code (1 : Nat) (Option.none : Option Jvm.ClassFile.FieldType)) ∈ zG := z_g 159 (by decide +kernel) (by decide +kernel)
theorem zw160 : (Jvm.Cond.methodLink "SchemaSubjects$Row" (3 : Nat) ({ cls := "java/lang/Object", name := "<init>", desc := "()V" } : Jvm.MethodName)) ∈ zG := z_g 160 (by decide +kernel) (by decide +kernel)
theorem zw161 : (Jvm.Cond.fieldLink "SchemaSubjects$Row" (9 : Nat) "SchemaSubjects$Row" "numbers" "[I") ∈ zG := z_g 161 (by decide +kernel) (by decide +kernel)
theorem zw162 : (Jvm.Cond.fieldLink "SchemaSubjects$Row" (15 : Nat) "SchemaSubjects$Row" "used" "I") ∈ zG := z_g 162 (by decide +kernel) (by decide +kernel)
theorem zw168 : (Jvm.Cond.arrayClass Jvm.ClassFile.FieldType.int) ∈ zG := z_g 168 (by decide +kernel) (by decide +kernel)
theorem zw169 : (Jvm.Cond.fieldLink "SchemaSubjects$Schema" (12 : Nat) "SchemaSubjects$Schema" "fields" "Ljava/util/ArrayList;") ∈ zG := z_g 169 (by decide +kernel) (by decide +kernel)
theorem zw170 : (Jvm.Cond.fieldLink "SchemaSubjects" (81 : Nat) "SchemaSubjects$Schema" "fields" "Ljava/util/ArrayList;") ∈ zG := z_g 170 (by decide +kernel) (by decide +kernel)
theorem zw171 : (Jvm.Cond.fieldLink "SchemaSubjects$Schema" (21 : Nat) "SchemaSubjects$Schema" "places" "LSchemaSubjects$Row;") ∈ zG := z_g 171 (by decide +kernel) (by decide +kernel)
theorem zw172 : (Jvm.Cond.fieldLink "SchemaSubjects" (74 : Nat) "SchemaSubjects$Schema" "places" "LSchemaSubjects$Row;") ∈ zG := z_g 172 (by decide +kernel) (by decide +kernel)
theorem zw173 : (Jvm.Cond.fieldLink "SchemaSubjects$Schema" (25 : Nat) "SchemaSubjects$Schema" "rank" "I") ∈ zG := z_g 173 (by decide +kernel) (by decide +kernel)
theorem zw174 : (Jvm.Cond.fieldLink "SchemaSubjects" (198 : Nat) "SchemaSubjects$Schema" "rank" "I") ∈ zG := z_g 174 (by decide +kernel) (by decide +kernel)
theorem zw182 : (Jvm.Cond.classLink "SchemaSubjects" (33 : Nat) "SchemaSubjects$Row") ∈ zG := z_g 182 (by decide +kernel) (by decide +kernel)
theorem zw183 : (Jvm.Cond.methodLink "SchemaSubjects" (35 : Nat) ({ cls := "SchemaSubjects$Row", name := "<init>", desc := "()V" } : Jvm.MethodName)) ∈ zG := z_g 183 (by decide +kernel) (by decide +kernel)
theorem zw184 : (Jvm.Cond.fieldLink "SchemaSubjects" (10 : Nat) "SchemaSubjects" "subjects" "Ljava/util/ArrayList;") ∈ zG := z_g 184 (by decide +kernel) (by decide +kernel)
theorem zw185 : (Jvm.Cond.fieldLink "SchemaSubjects" (23 : Nat) "SchemaSubjects" "numbered" "Ljava/util/ArrayList;") ∈ zG := z_g 185 (by decide +kernel) (by decide +kernel)
theorem zw186 : (Jvm.Cond.fieldLink "SchemaSubjects" (29 : Nat) "SchemaSubjects" "draft" "LSchemaSubjects$Schema;") ∈ zG := z_g 186 (by decide +kernel) (by decide +kernel)
theorem zw187 : (Jvm.Cond.fieldLink "SchemaSubjects" (36 : Nat) "SchemaSubjects" "recordDraft" "LSchemaSubjects$Row;") ∈ zG := z_g 187 (by decide +kernel) (by decide +kernel)
theorem zw188 : (Jvm.Cond.fieldLink "SchemaSubjects" (40 : Nat) "SchemaSubjects" "spare" "LSchemaSubjects$Row;") ∈ zG := z_g 188 (by decide +kernel) (by decide +kernel)
theorem zw189 : (Jvm.Cond.fieldLink "SchemaSubjects" (43 : Nat) "SchemaSubjects" "trial" "LSchemaSubjects$Row;") ∈ zG := z_g 189 (by decide +kernel) (by decide +kernel)
theorem zw203 : (Jvm.Cond.methodLink "SchemaSubjectsLaw" (92 : Nat) ({ cls := "SchemaSubjectsLaw", name := "cell", desc := "([II)I" } : Jvm.MethodName)) ∈ zG := z_g 203 (by decide +kernel) (by decide +kernel)
theorem zw204 : (Jvm.Cond.static ({ cls := "SchemaSubjectsLaw", name := "cell", desc := "([II)I" } : Jvm.MethodName)) ∈ zG := z_g 204 (by decide +kernel) (by decide +kernel)
theorem zw205 : (Jvm.Cond.code ({ cls := "SchemaSubjectsLaw", name := "cell", desc := "([II)I" } : Jvm.MethodName) method_2_code (2 : Nat) (Option.some Jvm.ClassFile.FieldType.int)) ∈ zG := z_g 205 (by decide +kernel) (by decide +kernel)
theorem zw206 : (Jvm.Cond.methodLink "SchemaSubjectsLaw" (66 : Nat) ({ cls := "SchemaSubjectsLaw", name := "low", desc := "(II)I" } : Jvm.MethodName)) ∈ zG := z_g 206 (by decide +kernel) (by decide +kernel)
theorem zw207 : (Jvm.Cond.static ({ cls := "SchemaSubjectsLaw", name := "low", desc := "(II)I" } : Jvm.MethodName)) ∈ zG := z_g 207 (by decide +kernel) (by decide +kernel)
theorem zw208 : (Jvm.Cond.code ({ cls := "SchemaSubjectsLaw", name := "low", desc := "(II)I" } : Jvm.MethodName) method_3_code (2 : Nat) (Option.some Jvm.ClassFile.FieldType.int)) ∈ zG := z_g 208 (by decide +kernel) (by decide +kernel)
theorem zw209 : (Jvm.Cond.constant "SchemaSubjectsLaw" (7 : Nat) (2147483647 : Int32)) ∈ zG := z_g 209 (by decide +kernel) (by decide +kernel)
theorem zw210 : (Jvm.Cond.methodLink "SchemaSubjectsLaw" (96 : Nat) ({ cls := "SchemaSubjectsLaw", name := "act", desc := "(LSchemaSubjects;IZ)I" } : Jvm.MethodName)) ∈ zG := z_g 210 (by decide +kernel) (by decide +kernel)
theorem zw211 : (Jvm.Cond.static ({ cls := "SchemaSubjectsLaw", name := "act", desc := "(LSchemaSubjects;IZ)I" } : Jvm.MethodName)) ∈ zG := z_g 211 (by decide +kernel) (by decide +kernel)
theorem zw212 : (Jvm.Cond.code ({ cls := "SchemaSubjectsLaw", name := "act", desc := "(LSchemaSubjects;IZ)I" } : Jvm.MethodName) method_7_code (8 : Nat) (Option.some Jvm.ClassFile.FieldType.int)) ∈ zG := z_g 212 (by decide +kernel) (by decide +kernel)
theorem zw213 : (Jvm.Cond.methodLink "SchemaSubjectsLaw" (71 : Nat) ({ cls := "SchemaSubjectsLaw", name := "field", desc := "(LSchemaSubjects;IIII)I" } : Jvm.MethodName)) ∈ zG := z_g 213 (by decide +kernel) (by decide +kernel)
theorem zw214 : (Jvm.Cond.static ({ cls := "SchemaSubjectsLaw", name := "field", desc := "(LSchemaSubjects;IIII)I" } : Jvm.MethodName)) ∈ zG := z_g 214 (by decide +kernel) (by decide +kernel)
theorem zw215 : (Jvm.Cond.codeWith ({ cls := "SchemaSubjectsLaw", name := "field", desc := "(LSchemaSubjects;IIII)I" } : Jvm.MethodName) method_4_code (6 : Nat) (Option.some Jvm.ClassFile.FieldType.int) [((0 : Nat), (9 : Nat), (10 : Nat), (14 : Nat)), ((0 : Nat), (9 : Nat), (15 : Nat), (17 : Nat)), ((0 : Nat), (9 : Nat), (20 : Nat), (19 : Nat))]) ∈ zG := z_g 215 (by decide +kernel) (by decide +kernel)
theorem zw216 : (Jvm.Cond.classLink "SchemaSubjectsLaw" (14 : Nat) "java/lang/IllegalArgumentException") ∈ zG := z_g 216 (by decide +kernel) (by decide +kernel)
theorem zw217 : (Jvm.Cond.classLink "SchemaSubjectsLaw" (17 : Nat) "java/lang/IndexOutOfBoundsException") ∈ zG := z_g 217 (by decide +kernel) (by decide +kernel)
theorem zw218 : (Jvm.Cond.classLink "SchemaSubjectsLaw" (19 : Nat) "java/lang/IllegalStateException") ∈ zG := z_g 218 (by decide +kernel) (by decide +kernel)
theorem zw219 : (Jvm.Cond.methodLink "SchemaSubjectsLaw" (8 : Nat) ({ cls := "SchemaSubjects", name := "field", desc := "(IIII)I" } : Jvm.MethodName)) ∈ zG := z_g 219 (by decide +kernel) (by decide +kernel)
theorem zw220 : (Jvm.Cond.instanceMethod ({ cls := "SchemaSubjects", name := "field", desc := "(IIII)I" } : Jvm.MethodName)) ∈ zG := z_g 220 (by decide +kernel) (by decide +kernel)
theorem zw221 : (Jvm.Cond.selects "SchemaSubjects" ({ cls := "SchemaSubjects", name := "field", desc := "(IIII)I" } : Jvm.MethodName) ({ cls := "SchemaSubjects", name := "field", desc := "(IIII)I" } : Jvm.MethodName)) ∈ zG := z_g 221 (by decide +kernel) (by decide +kernel)
theorem zw222 : (Jvm.Cond.code ({ cls := "SchemaSubjects", name := "field", desc := "(IIII)I" } : Jvm.MethodName) prog_1_method_2_code (8 : Nat) (Option.some Jvm.ClassFile.FieldType.int)) ∈ zG := z_g 222 (by decide +kernel) (by decide +kernel)
theorem zw223 : (Jvm.Cond.methodLink "SchemaSubjects" (46 : Nat) ({ cls := "SchemaSubjects", name := "isName", desc := "(I)Z" } : Jvm.MethodName)) ∈ zG := z_g 223 (by decide +kernel) (by decide +kernel)
theorem zw224 : (Jvm.Cond.static ({ cls := "SchemaSubjects", name := "isName", desc := "(I)Z" } : Jvm.MethodName)) ∈ zG := z_g 224 (by decide +kernel) (by decide +kernel)
theorem zw225 : (Jvm.Cond.code ({ cls := "SchemaSubjects", name := "isName", desc := "(I)Z" } : Jvm.MethodName) prog_1_method_25_code (1 : Nat) (Option.some Jvm.ClassFile.FieldType.boolean)) ∈ zG := z_g 225 (by decide +kernel) (by decide +kernel)
theorem zw226 : (Jvm.Cond.methodLink "SchemaSubjects" (50 : Nat) ({ cls := "SchemaSubjects", name := "isType", desc := "(I)Z" } : Jvm.MethodName)) ∈ zG := z_g 226 (by decide +kernel) (by decide +kernel)
theorem zw227 : (Jvm.Cond.static ({ cls := "SchemaSubjects", name := "isType", desc := "(I)Z" } : Jvm.MethodName)) ∈ zG := z_g 227 (by decide +kernel) (by decide +kernel)
theorem zw228 : (Jvm.Cond.code ({ cls := "SchemaSubjects", name := "isType", desc := "(I)Z" } : Jvm.MethodName) prog_1_method_26_code (1 : Nat) (Option.some Jvm.ClassFile.FieldType.boolean)) ∈ zG := z_g 228 (by decide +kernel) (by decide +kernel)
theorem zw229 : (Jvm.Cond.classLink "SchemaSubjects" (53 : Nat) "java/lang/IllegalArgumentException") ∈ zG := z_g 229 (by decide +kernel) (by decide +kernel)
theorem zw231 : (Jvm.Cond.castable "java/lang/IllegalArgumentException" "java/lang/IllegalArgumentException") ∈ zG := z_g 231 (by decide +kernel) (by decide +kernel)
theorem zw297 : (Jvm.Cond.methodLink "SchemaSubjects" (60 : Nat) ({ cls := "SchemaSubjects", name := "isSize", desc := "(I)Z" } : Jvm.MethodName)) ∈ zG := z_g 297 (by decide +kernel) (by decide +kernel)
theorem zw298 : (Jvm.Cond.static ({ cls := "SchemaSubjects", name := "isSize", desc := "(I)Z" } : Jvm.MethodName)) ∈ zG := z_g 298 (by decide +kernel) (by decide +kernel)
theorem zw299 : (Jvm.Cond.code ({ cls := "SchemaSubjects", name := "isSize", desc := "(I)Z" } : Jvm.MethodName) prog_1_method_27_code (1 : Nat) (Option.some Jvm.ClassFile.FieldType.boolean)) ∈ zG := z_g 299 (by decide +kernel) (by decide +kernel)
theorem zw301 : (Jvm.Cond.methodLink "SchemaSubjects" (65 : Nat) ({ cls := "SchemaSubjects", name := "referable", desc := "(I)LSchemaSubjects$Schema;" } : Jvm.MethodName)) ∈ zG := z_g 301 (by decide +kernel) (by decide +kernel)
theorem zw303 : (Jvm.Cond.instanceMethod ({ cls := "SchemaSubjects", name := "referable", desc := "(I)LSchemaSubjects$Schema;" } : Jvm.MethodName)) ∈ zG := z_g 303 (by decide +kernel) (by decide +kernel)
theorem zw304 : (Jvm.Cond.code ({ cls := "SchemaSubjects", name := "referable", desc := "(I)LSchemaSubjects$Schema;" } : Jvm.MethodName) prog_1_method_30_code (3 : Nat) (Option.some (Jvm.ClassFile.FieldType.object "SchemaSubjects$Schema"))) ∈ zG := z_g 304 (by decide +kernel) (by decide +kernel)
theorem zw305 : (Jvm.Cond.methodLink "SchemaSubjects" (84 : Nat) ({ cls := "java/util/ArrayList", name := "size", desc := "()I" } : Jvm.MethodName)) ∈ zG := z_g 305 (by decide +kernel) (by decide +kernel)
theorem zw306 : (Jvm.Cond.instanceMethod ({ cls := "java/util/ArrayList", name := "size", desc := "()I" } : Jvm.MethodName)) ∈ zG := z_g 306 (by decide +kernel) (by decide +kernel)
theorem zw307 : (Jvm.Cond.selects "java/util/ArrayList" ({ cls := "java/util/ArrayList", name := "size", desc := "()I" } : Jvm.MethodName) ({ cls := "java/util/ArrayList", name := "size", desc := "()I" } : Jvm.MethodName)) ∈ zG := z_g 307 (by decide +kernel) (by decide +kernel)
theorem zw308 : (Jvm.Cond.code ({ cls := "java/util/ArrayList", name := "size", desc := "()I" } : Jvm.MethodName) prog_23_method_8_code (1 : Nat) (Option.some Jvm.ClassFile.FieldType.int)) ∈ zG := z_g 308 (by decide +kernel) (by decide +kernel)
theorem zw309 : (Jvm.Cond.methodLink "SchemaSubjects" (242 : Nat) ({ cls := "java/util/ArrayList", name := "get", desc := "(I)Ljava/lang/Object;" } : Jvm.MethodName)) ∈ zG := z_g 309 (by decide +kernel) (by decide +kernel)
theorem zw310 : (Jvm.Cond.instanceMethod ({ cls := "java/util/ArrayList", name := "get", desc := "(I)Ljava/lang/Object;" } : Jvm.MethodName)) ∈ zG := z_g 310 (by decide +kernel) (by decide +kernel)
theorem zw311 : (Jvm.Cond.selects "java/util/ArrayList" ({ cls := "java/util/ArrayList", name := "get", desc := "(I)Ljava/lang/Object;" } : Jvm.MethodName) ({ cls := "java/util/ArrayList", name := "get", desc := "(I)Ljava/lang/Object;" } : Jvm.MethodName)) ∈ zG := z_g 311 (by decide +kernel) (by decide +kernel)
theorem zw312 : (Jvm.Cond.code ({ cls := "java/util/ArrayList", name := "get", desc := "(I)Ljava/lang/Object;" } : Jvm.MethodName) prog_23_method_20_code (2 : Nat) (Option.some (Jvm.ClassFile.FieldType.object "java/lang/Object"))) ∈ zG := z_g 312 (by decide +kernel) (by decide +kernel)
theorem zw313 : (Jvm.Cond.methodLink "java/util/ArrayList" (118 : Nat) ({ cls := "java/util/Objects", name := "checkIndex", desc := "(II)I" } : Jvm.MethodName)) ∈ zG := z_g 313 (by decide +kernel) (by decide +kernel)
theorem zw314 : (Jvm.Cond.static ({ cls := "java/util/Objects", name := "checkIndex", desc := "(II)I" } : Jvm.MethodName)) ∈ zG := z_g 314 (by decide +kernel) (by decide +kernel)
theorem zw315 : (Jvm.Cond.code ({ cls := "java/util/Objects", name := "checkIndex", desc := "(II)I" } : Jvm.MethodName) prog_27_method_17_code (2 : Nat) (Option.some Jvm.ClassFile.FieldType.int)) ∈ zG := z_g 315 (by decide +kernel) (by decide +kernel)
theorem zw316 : (Jvm.Cond.methodLink "java/util/Objects" (105 : Nat) ({ cls := "jdk/internal/util/Preconditions", name := "checkIndex", desc := "(IILjava/util/function/BiFunction;)I" } : Jvm.MethodName)) ∈ zG := z_g 316 (by decide +kernel) (by decide +kernel)
theorem zw317 : (Jvm.Cond.static ({ cls := "jdk/internal/util/Preconditions", name := "checkIndex", desc := "(IILjava/util/function/BiFunction;)I" } : Jvm.MethodName)) ∈ zG := z_g 317 (by decide +kernel) (by decide +kernel)
theorem zw318 : (Jvm.Cond.code ({ cls := "jdk/internal/util/Preconditions", name := "checkIndex", desc := "(IILjava/util/function/BiFunction;)I" } : Jvm.MethodName) prog_31_method_11_code (3 : Nat) (Option.some Jvm.ClassFile.FieldType.int)) ∈ zG := z_g 318 (by decide +kernel) (by decide +kernel)
theorem zw319 : (Jvm.Cond.methodLink "java/util/ArrayList" (123 : Nat) ({ cls := "java/util/ArrayList", name := "elementData", desc := "(I)Ljava/lang/Object;" } : Jvm.MethodName)) ∈ zG := z_g 319 (by decide +kernel) (by decide +kernel)
theorem zw320 : (Jvm.Cond.instanceMethod ({ cls := "java/util/ArrayList", name := "elementData", desc := "(I)Ljava/lang/Object;" } : Jvm.MethodName)) ∈ zG := z_g 320 (by decide +kernel) (by decide +kernel)
theorem zw321 : (Jvm.Cond.selects "java/util/ArrayList" ({ cls := "java/util/ArrayList", name := "elementData", desc := "(I)Ljava/lang/Object;" } : Jvm.MethodName) ({ cls := "java/util/ArrayList", name := "elementData", desc := "(I)Ljava/lang/Object;" } : Jvm.MethodName)) ∈ zG := z_g 321 (by decide +kernel) (by decide +kernel)
theorem zw322 : (Jvm.Cond.code ({ cls := "java/util/ArrayList", name := "elementData", desc := "(I)Ljava/lang/Object;" } : Jvm.MethodName) prog_23_method_18_code (2 : Nat) (Option.some (Jvm.ClassFile.FieldType.object "java/lang/Object"))) ∈ zG := z_g 322 (by decide +kernel) (by decide +kernel)
theorem zw323 : (Jvm.Cond.methodLink "SchemaSubjects" (246 : Nat) ({ cls := "SchemaSubjects$Subject", name := "keptVersion", desc := "(I)LSchemaSubjects$Version;" } : Jvm.MethodName)) ∈ zG := z_g 323 (by decide +kernel) (by decide +kernel)
theorem zw324 : (Jvm.Cond.instanceMethod ({ cls := "SchemaSubjects$Subject", name := "keptVersion", desc := "(I)LSchemaSubjects$Version;" } : Jvm.MethodName)) ∈ zG := z_g 324 (by decide +kernel) (by decide +kernel)
theorem zw325 : (Jvm.Cond.selects "SchemaSubjects$Subject" ({ cls := "SchemaSubjects$Subject", name := "keptVersion", desc := "(I)LSchemaSubjects$Version;" } : Jvm.MethodName) ({ cls := "SchemaSubjects$Subject", name := "keptVersion", desc := "(I)LSchemaSubjects$Version;" } : Jvm.MethodName)) ∈ zG := z_g 325 (by decide +kernel) (by decide +kernel)
theorem zw326 : (Jvm.Cond.code ({ cls := "SchemaSubjects$Subject", name := "keptVersion", desc := "(I)LSchemaSubjects$Version;" } : Jvm.MethodName) prog_5_method_2_code (3 : Nat) (Option.some (Jvm.ClassFile.FieldType.object "SchemaSubjects$Version"))) ∈ zG := z_g 326 (by decide +kernel) (by decide +kernel)
theorem zw327 : (Jvm.Cond.methodLink "SchemaSubjects$Subject" (18 : Nat) ({ cls := "java/util/ArrayList", name := "size", desc := "()I" } : Jvm.MethodName)) ∈ zG := z_g 327 (by decide +kernel) (by decide +kernel)
theorem zw328 : (Jvm.Cond.methodLink "SchemaSubjects$Subject" (22 : Nat) ({ cls := "java/util/ArrayList", name := "get", desc := "(I)Ljava/lang/Object;" } : Jvm.MethodName)) ∈ zG := z_g 328 (by decide +kernel) (by decide +kernel)
theorem zw329 : (Jvm.Cond.classLink "SchemaSubjects$Subject" (26 : Nat) "SchemaSubjects$Version") ∈ zG := z_g 329 (by decide +kernel) (by decide +kernel)
theorem zw330 : (Jvm.Cond.classLink "SchemaSubjects" (69 : Nat) "java/lang/IndexOutOfBoundsException") ∈ zG := z_g 330 (by decide +kernel) (by decide +kernel)
theorem zw332 : (Jvm.Cond.castable "java/lang/IndexOutOfBoundsException" "java/lang/IndexOutOfBoundsException") ∈ zG := z_g 332 (by decide +kernel) (by decide +kernel)
theorem zw346 : (Jvm.Cond.methodLink "SchemaSubjects" (77 : Nat) ({ cls := "SchemaSubjects$Row", name := "count", desc := "()I" } : Jvm.MethodName)) ∈ zG := z_g 346 (by decide +kernel) (by decide +kernel)
theorem zw347 : (Jvm.Cond.instanceMethod ({ cls := "SchemaSubjects$Row", name := "count", desc := "()I" } : Jvm.MethodName)) ∈ zG := z_g 347 (by decide +kernel) (by decide +kernel)
theorem zw348 : (Jvm.Cond.selects "SchemaSubjects$Row" ({ cls := "SchemaSubjects$Row", name := "count", desc := "()I" } : Jvm.MethodName) ({ cls := "SchemaSubjects$Row", name := "count", desc := "()I" } : Jvm.MethodName)) ∈ zG := z_g 348 (by decide +kernel) (by decide +kernel)
theorem zw349 : (Jvm.Cond.code ({ cls := "SchemaSubjects$Row", name := "count", desc := "()I" } : Jvm.MethodName) prog_3_method_2_code (1 : Nat) (Option.some Jvm.ClassFile.FieldType.int)) ∈ zG := z_g 349 (by decide +kernel) (by decide +kernel)
theorem zw350 : (Jvm.Cond.methodLink "SchemaSubjects" (87 : Nat) ({ cls := "SchemaSubjects$Schema", name := "named", desc := "(I)LSchemaSubjects$Field;" } : Jvm.MethodName)) ∈ zG := z_g 350 (by decide +kernel) (by decide +kernel)
theorem zw351 : (Jvm.Cond.instanceMethod ({ cls := "SchemaSubjects$Schema", name := "named", desc := "(I)LSchemaSubjects$Field;" } : Jvm.MethodName)) ∈ zG := z_g 351 (by decide +kernel) (by decide +kernel)
theorem zw352 : (Jvm.Cond.selects "SchemaSubjects$Schema" ({ cls := "SchemaSubjects$Schema", name := "named", desc := "(I)LSchemaSubjects$Field;" } : Jvm.MethodName) ({ cls := "SchemaSubjects$Schema", name := "named", desc := "(I)LSchemaSubjects$Field;" } : Jvm.MethodName)) ∈ zG := z_g 352 (by decide +kernel) (by decide +kernel)
theorem zw353 : (Jvm.Cond.code ({ cls := "SchemaSubjects$Schema", name := "named", desc := "(I)LSchemaSubjects$Field;" } : Jvm.MethodName) prog_4_method_5_code (3 : Nat) (Option.some (Jvm.ClassFile.FieldType.object "SchemaSubjects$Field"))) ∈ zG := z_g 353 (by decide +kernel) (by decide +kernel)
theorem zw354 : (Jvm.Cond.methodLink "SchemaSubjects$Schema" (66 : Nat) ({ cls := "java/util/ArrayList", name := "size", desc := "()I" } : Jvm.MethodName)) ∈ zG := z_g 354 (by decide +kernel) (by decide +kernel)
theorem zw355 : (Jvm.Cond.methodLink "SchemaSubjects$Schema" (68 : Nat) ({ cls := "java/util/ArrayList", name := "get", desc := "(I)Ljava/lang/Object;" } : Jvm.MethodName)) ∈ zG := z_g 355 (by decide +kernel) (by decide +kernel)
theorem zw356 : (Jvm.Cond.classLink "SchemaSubjects$Schema" (34 : Nat) "SchemaSubjects$Field") ∈ zG := z_g 356 (by decide +kernel) (by decide +kernel)
theorem zw357 : (Jvm.Cond.classLink "SchemaSubjects" (91 : Nat) "java/lang/IllegalStateException") ∈ zG := z_g 357 (by decide +kernel) (by decide +kernel)
theorem zw359 : (Jvm.Cond.castable "java/lang/IllegalStateException" "java/lang/IllegalStateException") ∈ zG := z_g 359 (by decide +kernel) (by decide +kernel)
theorem zw373 : (Jvm.Cond.classLink "SchemaSubjects" (96 : Nat) "SchemaSubjects$Field") ∈ zG := z_g 373 (by decide +kernel) (by decide +kernel)
theorem zw374 : (Jvm.Cond.instantiable "SchemaSubjects$Field" (9 : Nat)) ∈ zG := z_g 374 (by decide +kernel) (by decide +kernel)
theorem zw375 : (Jvm.Cond.methodLink "SchemaSubjects" (98 : Nat) ({ cls := "SchemaSubjects", name := "sizeOf", desc := "(II)I" } : Jvm.MethodName)) ∈ zG := z_g 375 (by decide +kernel) (by decide +kernel)
theorem zw376 : (Jvm.Cond.static ({ cls := "SchemaSubjects", name := "sizeOf", desc := "(II)I" } : Jvm.MethodName)) ∈ zG := z_g 376 (by decide +kernel) (by decide +kernel)
theorem zw377 : (Jvm.Cond.code ({ cls := "SchemaSubjects", name := "sizeOf", desc := "(II)I" } : Jvm.MethodName) prog_1_method_28_code (2 : Nat) (Option.some Jvm.ClassFile.FieldType.int)) ∈ zG := z_g 377 (by decide +kernel) (by decide +kernel)
theorem zw378 : (Jvm.Cond.methodLink "SchemaSubjects" (102 : Nat) ({ cls := "SchemaSubjects$Field", name := "<init>", desc := "(IIIIILSchemaSubjects$Schema;)V" } : Jvm.MethodName)) ∈ zG := z_g 378 (by decide +kernel) (by decide +kernel)
theorem zw379 : (Jvm.Cond.instanceMethod ({ cls := "SchemaSubjects$Field", name := "<init>", desc := "(IIIIILSchemaSubjects$Schema;)V" } : Jvm.MethodName)) ∈ zG := z_g 379 (by decide +kernel) (by decide +kernel)
theorem zw380 : (Jvm.Cond.code ({ cls := "SchemaSubjects$Field", name := "<init>", desc := "(IIIIILSchemaSubjects$Schema;)V" } : Jvm.MethodName) prog_2_method_1_code (7 : Nat) (Option.none : Option Jvm.ClassFile.FieldType)) ∈ zG := z_g 380 (by decide +kernel) (by decide +kernel)
theorem zw381 : (Jvm.Cond.methodLink "SchemaSubjects$Field" (3 : Nat) ({ cls := "java/lang/Object", name := "<init>", desc := "()V" } : Jvm.MethodName)) ∈ zG := z_g 381 (by decide +kernel) (by decide +kernel)
theorem zw382 : (Jvm.Cond.fieldLink "SchemaSubjects$Field" (9 : Nat) "SchemaSubjects$Field" "name" "I") ∈ zG := z_g 382 (by decide +kernel) (by decide +kernel)
theorem zw383 : (Jvm.Cond.fieldLink "SchemaSubjects" (134 : Nat) "SchemaSubjects$Field" "name" "I") ∈ zG := z_g 383 (by decide +kernel) (by decide +kernel)
theorem zw384 : (Jvm.Cond.fieldLink "SchemaSubjects$Schema" (72 : Nat) "SchemaSubjects$Field" "name" "I") ∈ zG := z_g 384 (by decide +kernel) (by decide +kernel)
theorem zw385 : (Jvm.Cond.fieldLink "SchemaSubjects$Field" (15 : Nat) "SchemaSubjects$Field" "type" "I") ∈ zG := z_g 385 (by decide +kernel) (by decide +kernel)
theorem zw386 : (Jvm.Cond.fieldLink "SchemaSubjects" (113 : Nat) "SchemaSubjects$Field" "type" "I") ∈ zG := z_g 386 (by decide +kernel) (by decide +kernel)
theorem zw387 : (Jvm.Cond.fieldLink "SchemaSubjects$Field" (18 : Nat) "SchemaSubjects$Field" "size" "I") ∈ zG := z_g 387 (by decide +kernel) (by decide +kernel)
theorem zw388 : (Jvm.Cond.fieldLink "SchemaSubjects$Schema" (46 : Nat) "SchemaSubjects$Field" "size" "I") ∈ zG := z_g 388 (by decide +kernel) (by decide +kernel)
theorem zw389 : (Jvm.Cond.fieldLink "SchemaSubjects" (119 : Nat) "SchemaSubjects$Field" "size" "I") ∈ zG := z_g 389 (by decide +kernel) (by decide +kernel)
theorem zw390 : (Jvm.Cond.fieldLink "SchemaSubjects$Field" (21 : Nat) "SchemaSubjects$Field" "alias" "I") ∈ zG := z_g 390 (by decide +kernel) (by decide +kernel)
theorem zw391 : (Jvm.Cond.fieldLink "SchemaSubjects$Schema" (79 : Nat) "SchemaSubjects$Field" "alias" "I") ∈ zG := z_g 391 (by decide +kernel) (by decide +kernel)
theorem zw392 : (Jvm.Cond.fieldLink "SchemaSubjects$Field" (24 : Nat) "SchemaSubjects$Field" "reference" "I") ∈ zG := z_g 392 (by decide +kernel) (by decide +kernel)
theorem zw393 : (Jvm.Cond.fieldLink "SchemaSubjects$Schema" (82 : Nat) "SchemaSubjects$Field" "reference" "I") ∈ zG := z_g 393 (by decide +kernel) (by decide +kernel)
theorem zw394 : (Jvm.Cond.fieldLink "SchemaSubjects$Field" (27 : Nat) "SchemaSubjects$Field" "referred" "LSchemaSubjects$Schema;") ∈ zG := z_g 394 (by decide +kernel) (by decide +kernel)
theorem zw395 : (Jvm.Cond.fieldLink "SchemaSubjects$Schema" (42 : Nat) "SchemaSubjects$Field" "referred" "LSchemaSubjects$Schema;") ∈ zG := z_g 395 (by decide +kernel) (by decide +kernel)
theorem zw396 : (Jvm.Cond.fieldLink "SchemaSubjects" (279 : Nat) "SchemaSubjects$Field" "referred" "LSchemaSubjects$Schema;") ∈ zG := z_g 396 (by decide +kernel) (by decide +kernel)
theorem zw397 : (Jvm.Cond.fieldLink "SchemaSubjects$Schema" (33 : Nat) "SchemaSubjects$Field" "begin" "I") ∈ zG := z_g 397 (by decide +kernel) (by decide +kernel)
theorem zw398 : (Jvm.Cond.fieldLink "SchemaSubjects" (290 : Nat) "SchemaSubjects$Field" "begin" "I") ∈ zG := z_g 398 (by decide +kernel) (by decide +kernel)
theorem zw399 : (Jvm.Cond.fieldLink "SchemaSubjects" (127 : Nat) "SchemaSubjects$Field" "hasDefault" "Z") ∈ zG := z_g 399 (by decide +kernel) (by decide +kernel)
theorem zw400 : (Jvm.Cond.fieldLink "SchemaSubjects$Field" (31 : Nat) "SchemaSubjects$Field" "hasDefault" "Z") ∈ zG := z_g 400 (by decide +kernel) (by decide +kernel)
theorem zw401 : (Jvm.Cond.fieldLink "SchemaSubjects" (131 : Nat) "SchemaSubjects$Field" "defaultNumber" "I") ∈ zG := z_g 401 (by decide +kernel) (by decide +kernel)
theorem zw402 : (Jvm.Cond.fieldLink "SchemaSubjects$Field" (35 : Nat) "SchemaSubjects$Field" "defaultNumber" "I") ∈ zG := z_g 402 (by decide +kernel) (by decide +kernel)
theorem zw422 : (Jvm.Cond.methodLink "SchemaSubjects" (105 : Nat) ({ cls := "SchemaSubjects$Schema", name := "append", desc := "(LSchemaSubjects$Field;)V" } : Jvm.MethodName)) ∈ zG := z_g 422 (by decide +kernel) (by decide +kernel)
theorem zw423 : (Jvm.Cond.instanceMethod ({ cls := "SchemaSubjects$Schema", name := "append", desc := "(LSchemaSubjects$Field;)V" } : Jvm.MethodName)) ∈ zG := z_g 423 (by decide +kernel) (by decide +kernel)
theorem zw424 : (Jvm.Cond.selects "SchemaSubjects$Schema" ({ cls := "SchemaSubjects$Schema", name := "append", desc := "(LSchemaSubjects$Field;)V" } : Jvm.MethodName) ({ cls := "SchemaSubjects$Schema", name := "append", desc := "(LSchemaSubjects$Field;)V" } : Jvm.MethodName)) ∈ zG := z_g 424 (by decide +kernel) (by decide +kernel)
theorem zw425 : (Jvm.Cond.code ({ cls := "SchemaSubjects$Schema", name := "append", desc := "(LSchemaSubjects$Field;)V" } : Jvm.MethodName) prog_4_method_2_code (2 : Nat) (Option.none : Option Jvm.ClassFile.FieldType)) ∈ zG := z_g 425 (by decide +kernel) (by decide +kernel)
theorem zw426 : (Jvm.Cond.methodLink "SchemaSubjects$Schema" (29 : Nat) ({ cls := "SchemaSubjects$Row", name := "count", desc := "()I" } : Jvm.MethodName)) ∈ zG := z_g 426 (by decide +kernel) (by decide +kernel)
theorem zw427 : (Jvm.Cond.methodLink "SchemaSubjects$Schema" (38 : Nat) ({ cls := "java/util/ArrayList", name := "add", desc := "(Ljava/lang/Object;)Z" } : Jvm.MethodName)) ∈ zG := z_g 427 (by decide +kernel) (by decide +kernel)
theorem zw428 : (Jvm.Cond.methodLink "SchemaSubjects$Schema" (49 : Nat) ({ cls := "SchemaSubjects$Row", name := "add", desc := "(I)V" } : Jvm.MethodName)) ∈ zG := z_g 428 (by decide +kernel) (by decide +kernel)
theorem zw429 : (Jvm.Cond.instanceMethod ({ cls := "SchemaSubjects$Row", name := "add", desc := "(I)V" } : Jvm.MethodName)) ∈ zG := z_g 429 (by decide +kernel) (by decide +kernel)
theorem zw430 : (Jvm.Cond.selects "SchemaSubjects$Row" ({ cls := "SchemaSubjects$Row", name := "add", desc := "(I)V" } : Jvm.MethodName) ({ cls := "SchemaSubjects$Row", name := "add", desc := "(I)V" } : Jvm.MethodName)) ∈ zG := z_g 430 (by decide +kernel) (by decide +kernel)
theorem zw431 : (Jvm.Cond.code ({ cls := "SchemaSubjects$Row", name := "add", desc := "(I)V" } : Jvm.MethodName) prog_3_method_4_code (2 : Nat) (Option.none : Option Jvm.ClassFile.FieldType)) ∈ zG := z_g 431 (by decide +kernel) (by decide +kernel)
theorem zw432 : (Jvm.Cond.methodLink "SchemaSubjects$Schema" (52 : Nat) ({ cls := "SchemaSubjects$Row", name := "addAll", desc := "(LSchemaSubjects$Row;)V" } : Jvm.MethodName)) ∈ zG := z_g 432 (by decide +kernel) (by decide +kernel)
theorem zw433 : (Jvm.Cond.instanceMethod ({ cls := "SchemaSubjects$Row", name := "addAll", desc := "(LSchemaSubjects$Row;)V" } : Jvm.MethodName)) ∈ zG := z_g 433 (by decide +kernel) (by decide +kernel)
theorem zw434 : (Jvm.Cond.selects "SchemaSubjects$Row" ({ cls := "SchemaSubjects$Row", name := "addAll", desc := "(LSchemaSubjects$Row;)V" } : Jvm.MethodName) ({ cls := "SchemaSubjects$Row", name := "addAll", desc := "(LSchemaSubjects$Row;)V" } : Jvm.MethodName)) ∈ zG := z_g 434 (by decide +kernel) (by decide +kernel)
theorem zw435 : (Jvm.Cond.code ({ cls := "SchemaSubjects$Row", name := "addAll", desc := "(LSchemaSubjects$Row;)V" } : Jvm.MethodName) prog_3_method_5_code (3 : Nat) (Option.none : Option Jvm.ClassFile.FieldType)) ∈ zG := z_g 435 (by decide +kernel) (by decide +kernel)
theorem zw436 : (Jvm.Cond.methodLink "SchemaSubjects$Row" (19 : Nat) ({ cls := "SchemaSubjects$Row", name := "count", desc := "()I" } : Jvm.MethodName)) ∈ zG := z_g 436 (by decide +kernel) (by decide +kernel)
theorem zw437 : (Jvm.Cond.methodLink "SchemaSubjects$Row" (23 : Nat) ({ cls := "SchemaSubjects$Row", name := "at", desc := "(I)I" } : Jvm.MethodName)) ∈ zG := z_g 437 (by decide +kernel) (by decide +kernel)
theorem zw438 : (Jvm.Cond.instanceMethod ({ cls := "SchemaSubjects$Row", name := "at", desc := "(I)I" } : Jvm.MethodName)) ∈ zG := z_g 438 (by decide +kernel) (by decide +kernel)
theorem zw439 : (Jvm.Cond.selects "SchemaSubjects$Row" ({ cls := "SchemaSubjects$Row", name := "at", desc := "(I)I" } : Jvm.MethodName) ({ cls := "SchemaSubjects$Row", name := "at", desc := "(I)I" } : Jvm.MethodName)) ∈ zG := z_g 439 (by decide +kernel) (by decide +kernel)
theorem zw440 : (Jvm.Cond.code ({ cls := "SchemaSubjects$Row", name := "at", desc := "(I)I" } : Jvm.MethodName) prog_3_method_3_code (2 : Nat) (Option.some Jvm.ClassFile.FieldType.int)) ∈ zG := z_g 440 (by decide +kernel) (by decide +kernel)
theorem zw441 : (Jvm.Cond.methodLink "SchemaSubjects$Row" (27 : Nat) ({ cls := "SchemaSubjects$Row", name := "add", desc := "(I)V" } : Jvm.MethodName)) ∈ zG := z_g 441 (by decide +kernel) (by decide +kernel)
theorem zw442 : (Jvm.Cond.constant "SchemaSubjectsLaw" (16 : Nat) (-99999 : Int32)) ∈ zG := z_g 442 (by decide +kernel) (by decide +kernel)
theorem zw443 : (Jvm.Cond.methodLink "SchemaSubjectsLaw" (74 : Nat) ({ cls := "SchemaSubjectsLaw", name := "does", desc := "(LSchemaSubjects;III)I" } : Jvm.MethodName)) ∈ zG := z_g 443 (by decide +kernel) (by decide +kernel)
theorem zw444 : (Jvm.Cond.static ({ cls := "SchemaSubjectsLaw", name := "does", desc := "(LSchemaSubjects;III)I" } : Jvm.MethodName)) ∈ zG := z_g 444 (by decide +kernel) (by decide +kernel)
theorem zw445 : (Jvm.Cond.codeWith ({ cls := "SchemaSubjectsLaw", name := "does", desc := "(LSchemaSubjects;III)I" } : Jvm.MethodName) method_5_code (5 : Nat) (Option.some Jvm.ClassFile.FieldType.int) [((0 : Nat), (168 : Nat), (169 : Nat), (14 : Nat)), ((0 : Nat), (168 : Nat), (174 : Nat), (17 : Nat)), ((0 : Nat), (168 : Nat), (179 : Nat), (19 : Nat))]) ∈ zG := z_g 445 (by decide +kernel) (by decide +kernel)
theorem zw446 : (Jvm.Cond.methodLink "SchemaSubjectsLaw" (21 : Nat) ({ cls := "SchemaSubjects", name := "byDefault", desc := "(I)I" } : Jvm.MethodName)) ∈ zG := z_g 446 (by decide +kernel) (by decide +kernel)
theorem zw447 : (Jvm.Cond.instanceMethod ({ cls := "SchemaSubjects", name := "byDefault", desc := "(I)I" } : Jvm.MethodName)) ∈ zG := z_g 447 (by decide +kernel) (by decide +kernel)
theorem zw448 : (Jvm.Cond.selects "SchemaSubjects" ({ cls := "SchemaSubjects", name := "byDefault", desc := "(I)I" } : Jvm.MethodName) ({ cls := "SchemaSubjects", name := "byDefault", desc := "(I)I" } : Jvm.MethodName)) ∈ zG := z_g 448 (by decide +kernel) (by decide +kernel)
theorem zw449 : (Jvm.Cond.code ({ cls := "SchemaSubjects", name := "byDefault", desc := "(I)I" } : Jvm.MethodName) prog_1_method_3_code (3 : Nat) (Option.some Jvm.ClassFile.FieldType.int)) ∈ zG := z_g 449 (by decide +kernel) (by decide +kernel)
theorem zw450 : (Jvm.Cond.methodLink "SchemaSubjects" (109 : Nat) ({ cls := "SchemaSubjects$Schema", name := "last", desc := "()LSchemaSubjects$Field;" } : Jvm.MethodName)) ∈ zG := z_g 450 (by decide +kernel) (by decide +kernel)
theorem zw451 : (Jvm.Cond.instanceMethod ({ cls := "SchemaSubjects$Schema", name := "last", desc := "()LSchemaSubjects$Field;" } : Jvm.MethodName)) ∈ zG := z_g 451 (by decide +kernel) (by decide +kernel)
theorem zw452 : (Jvm.Cond.selects "SchemaSubjects$Schema" ({ cls := "SchemaSubjects$Schema", name := "last", desc := "()LSchemaSubjects$Field;" } : Jvm.MethodName) ({ cls := "SchemaSubjects$Schema", name := "last", desc := "()LSchemaSubjects$Field;" } : Jvm.MethodName)) ∈ zG := z_g 452 (by decide +kernel) (by decide +kernel)
theorem zw453 : (Jvm.Cond.code ({ cls := "SchemaSubjects$Schema", name := "last", desc := "()LSchemaSubjects$Field;" } : Jvm.MethodName) prog_4_method_4_code (1 : Nat) (Option.some (Jvm.ClassFile.FieldType.object "SchemaSubjects$Field"))) ∈ zG := z_g 453 (by decide +kernel) (by decide +kernel)
theorem zw454 : (Jvm.Cond.methodLink "SchemaSubjects$Schema" (62 : Nat) ({ cls := "java/util/ArrayList", name := "isEmpty", desc := "()Z" } : Jvm.MethodName)) ∈ zG := z_g 454 (by decide +kernel) (by decide +kernel)
theorem zw455 : (Jvm.Cond.instanceMethod ({ cls := "java/util/ArrayList", name := "isEmpty", desc := "()Z" } : Jvm.MethodName)) ∈ zG := z_g 455 (by decide +kernel) (by decide +kernel)
theorem zw456 : (Jvm.Cond.selects "java/util/ArrayList" ({ cls := "java/util/ArrayList", name := "isEmpty", desc := "()Z" } : Jvm.MethodName) ({ cls := "java/util/ArrayList", name := "isEmpty", desc := "()Z" } : Jvm.MethodName)) ∈ zG := z_g 456 (by decide +kernel) (by decide +kernel)
theorem zw457 : (Jvm.Cond.code ({ cls := "java/util/ArrayList", name := "isEmpty", desc := "()Z" } : Jvm.MethodName) prog_23_method_9_code (1 : Nat) (Option.some Jvm.ClassFile.FieldType.boolean)) ∈ zG := z_g 457 (by decide +kernel) (by decide +kernel)
theorem zw459 : (Jvm.Cond.methodLink "SchemaSubjects" (121 : Nat) ({ cls := "SchemaSubjects", name := "isOfSize", desc := "(II)Z" } : Jvm.MethodName)) ∈ zG := z_g 459 (by decide +kernel) (by decide +kernel)
theorem zw460 : (Jvm.Cond.static ({ cls := "SchemaSubjects", name := "isOfSize", desc := "(II)Z" } : Jvm.MethodName)) ∈ zG := z_g 460 (by decide +kernel) (by decide +kernel)
theorem zw461 : (Jvm.Cond.code ({ cls := "SchemaSubjects", name := "isOfSize", desc := "(II)Z" } : Jvm.MethodName) prog_1_method_29_code (2 : Nat) (Option.some Jvm.ClassFile.FieldType.boolean)) ∈ zG := z_g 461 (by decide +kernel) (by decide +kernel)
theorem zw463 : (Jvm.Cond.methodLink "SchemaSubjectsLaw" (25 : Nat) ({ cls := "SchemaSubjects", name := "isAccepted", desc := "(I)Z" } : Jvm.MethodName)) ∈ zG := z_g 463 (by decide +kernel) (by decide +kernel)
theorem zw464 : (Jvm.Cond.instanceMethod ({ cls := "SchemaSubjects", name := "isAccepted", desc := "(I)Z" } : Jvm.MethodName)) ∈ zG := z_g 464 (by decide +kernel) (by decide +kernel)
theorem zw465 : (Jvm.Cond.selects "SchemaSubjects" ({ cls := "SchemaSubjects", name := "isAccepted", desc := "(I)Z" } : Jvm.MethodName) ({ cls := "SchemaSubjects", name := "isAccepted", desc := "(I)Z" } : Jvm.MethodName)) ∈ zG := z_g 465 (by decide +kernel) (by decide +kernel)
theorem zw466 : (Jvm.Cond.code ({ cls := "SchemaSubjects", name := "isAccepted", desc := "(I)Z" } : Jvm.MethodName) prog_1_method_5_code (3 : Nat) (Option.some Jvm.ClassFile.FieldType.boolean)) ∈ zG := z_g 466 (by decide +kernel) (by decide +kernel)
theorem zw467 : (Jvm.Cond.methodLink "SchemaSubjects" (140 : Nat) ({ cls := "SchemaSubjects", name := "demandedSubject", desc := "(I)LSchemaSubjects$Subject;" } : Jvm.MethodName)) ∈ zG := z_g 467 (by decide +kernel) (by decide +kernel)
theorem zw469 : (Jvm.Cond.instanceMethod ({ cls := "SchemaSubjects", name := "demandedSubject", desc := "(I)LSchemaSubjects$Subject;" } : Jvm.MethodName)) ∈ zG := z_g 469 (by decide +kernel) (by decide +kernel)
theorem zw470 : (Jvm.Cond.code ({ cls := "SchemaSubjects", name := "demandedSubject", desc := "(I)LSchemaSubjects$Subject;" } : Jvm.MethodName) prog_1_method_20_code (2 : Nat) (Option.some (Jvm.ClassFile.FieldType.object "SchemaSubjects$Subject"))) ∈ zG := z_g 470 (by decide +kernel) (by decide +kernel)
theorem zw472 : (Jvm.Cond.methodLink "SchemaSubjects" (144 : Nat) ({ cls := "SchemaSubjects", name := "demandDraft", desc := "()V" } : Jvm.MethodName)) ∈ zG := z_g 472 (by decide +kernel) (by decide +kernel)
theorem zw474 : (Jvm.Cond.instanceMethod ({ cls := "SchemaSubjects", name := "demandDraft", desc := "()V" } : Jvm.MethodName)) ∈ zG := z_g 474 (by decide +kernel) (by decide +kernel)
theorem zw475 : (Jvm.Cond.code ({ cls := "SchemaSubjects", name := "demandDraft", desc := "()V" } : Jvm.MethodName) prog_1_method_24_code (1 : Nat) (Option.none : Option Jvm.ClassFile.FieldType)) ∈ zG := z_g 475 (by decide +kernel) (by decide +kernel)
theorem zw476 : (Jvm.Cond.methodLink "SchemaSubjects" (255 : Nat) ({ cls := "java/util/ArrayList", name := "isEmpty", desc := "()Z" } : Jvm.MethodName)) ∈ zG := z_g 476 (by decide +kernel) (by decide +kernel)
theorem zw478 : (Jvm.Cond.methodLink "SchemaSubjects" (147 : Nat) ({ cls := "SchemaSubjects$Subject", name := "accepts", desc := "(LSchemaSubjects$Schema;)Z" } : Jvm.MethodName)) ∈ zG := z_g 478 (by decide +kernel) (by decide +kernel)
theorem zw479 : (Jvm.Cond.instanceMethod ({ cls := "SchemaSubjects$Subject", name := "accepts", desc := "(LSchemaSubjects$Schema;)Z" } : Jvm.MethodName)) ∈ zG := z_g 479 (by decide +kernel) (by decide +kernel)
theorem zw480 : (Jvm.Cond.selects "SchemaSubjects$Subject" ({ cls := "SchemaSubjects$Subject", name := "accepts", desc := "(LSchemaSubjects$Schema;)Z" } : Jvm.MethodName) ({ cls := "SchemaSubjects$Subject", name := "accepts", desc := "(LSchemaSubjects$Schema;)Z" } : Jvm.MethodName)) ∈ zG := z_g 480 (by decide +kernel) (by decide +kernel)
theorem zw481 : (Jvm.Cond.code ({ cls := "SchemaSubjects$Subject", name := "accepts", desc := "(LSchemaSubjects$Schema;)Z" } : Jvm.MethodName) prog_5_method_6_code (4 : Nat) (Option.some Jvm.ClassFile.FieldType.boolean)) ∈ zG := z_g 481 (by decide +kernel) (by decide +kernel)
theorem zw482 : (Jvm.Cond.methodLink "SchemaSubjects$Subject" (46 : Nat) ({ cls := "SchemaSubjects$Subject", name := "agrees", desc := "(LSchemaSubjects$Schema;LSchemaSubjects$Schema;)Z" } : Jvm.MethodName)) ∈ zG := z_g 482 (by decide +kernel) (by decide +kernel)
theorem zw484 : (Jvm.Cond.instanceMethod ({ cls := "SchemaSubjects$Subject", name := "agrees", desc := "(LSchemaSubjects$Schema;LSchemaSubjects$Schema;)Z" } : Jvm.MethodName)) ∈ zG := z_g 484 (by decide +kernel) (by decide +kernel)
theorem zw485 : (Jvm.Cond.code ({ cls := "SchemaSubjects$Subject", name := "agrees", desc := "(LSchemaSubjects$Schema;LSchemaSubjects$Schema;)Z" } : Jvm.MethodName) prog_5_method_7_code (3 : Nat) (Option.some Jvm.ClassFile.FieldType.boolean)) ∈ zG := z_g 485 (by decide +kernel) (by decide +kernel)
theorem zw487 : (Jvm.Cond.static ({ cls := "SchemaSubjects", name := "canReadSchema", desc := "(LSchemaSubjects$Schema;LSchemaSubjects$Schema;I)Z" } : Jvm.MethodName)) ∈ zG := z_g 487 (by decide +kernel) (by decide +kernel)
theorem zw488 : (Jvm.Cond.code ({ cls := "SchemaSubjects", name := "canReadSchema", desc := "(LSchemaSubjects$Schema;LSchemaSubjects$Schema;I)Z" } : Jvm.MethodName) prog_1_method_33_code (4 : Nat) (Option.some Jvm.ClassFile.FieldType.boolean)) ∈ zG := z_g 488 (by decide +kernel) (by decide +kernel)
theorem zw489 : (Jvm.Cond.methodLink "SchemaSubjects" (268 : Nat) ({ cls := "SchemaSubjects", name := "canReadField", desc := "(LSchemaSubjects$Field;LSchemaSubjects$Schema;I)Z" } : Jvm.MethodName)) ∈ zG := z_g 489 (by decide +kernel) (by decide +kernel)
theorem zw490 : (Jvm.Cond.static ({ cls := "SchemaSubjects", name := "canReadField", desc := "(LSchemaSubjects$Field;LSchemaSubjects$Schema;I)Z" } : Jvm.MethodName)) ∈ zG := z_g 490 (by decide +kernel) (by decide +kernel)
theorem zw491 : (Jvm.Cond.code ({ cls := "SchemaSubjects", name := "canReadField", desc := "(LSchemaSubjects$Field;LSchemaSubjects$Schema;I)Z" } : Jvm.MethodName) prog_1_method_34_code (4 : Nat) (Option.some Jvm.ClassFile.FieldType.boolean)) ∈ zG := z_g 491 (by decide +kernel) (by decide +kernel)
theorem zw492 : (Jvm.Cond.methodLink "SchemaSubjects" (272 : Nat) ({ cls := "SchemaSubjects$Schema", name := "sourceOf", desc := "(LSchemaSubjects$Field;)LSchemaSubjects$Field;" } : Jvm.MethodName)) ∈ zG := z_g 492 (by decide +kernel) (by decide +kernel)
theorem zw493 : (Jvm.Cond.instanceMethod ({ cls := "SchemaSubjects$Schema", name := "sourceOf", desc := "(LSchemaSubjects$Field;)LSchemaSubjects$Field;" } : Jvm.MethodName)) ∈ zG := z_g 493 (by decide +kernel) (by decide +kernel)
theorem zw494 : (Jvm.Cond.selects "SchemaSubjects$Schema" ({ cls := "SchemaSubjects$Schema", name := "sourceOf", desc := "(LSchemaSubjects$Field;)LSchemaSubjects$Field;" } : Jvm.MethodName) ({ cls := "SchemaSubjects$Schema", name := "sourceOf", desc := "(LSchemaSubjects$Field;)LSchemaSubjects$Field;" } : Jvm.MethodName)) ∈ zG := z_g 494 (by decide +kernel) (by decide +kernel)
theorem zw495 : (Jvm.Cond.code ({ cls := "SchemaSubjects$Schema", name := "sourceOf", desc := "(LSchemaSubjects$Field;)LSchemaSubjects$Field;" } : Jvm.MethodName) prog_4_method_6_code (3 : Nat) (Option.some (Jvm.ClassFile.FieldType.object "SchemaSubjects$Field"))) ∈ zG := z_g 495 (by decide +kernel) (by decide +kernel)
theorem zw496 : (Jvm.Cond.methodLink "SchemaSubjects$Schema" (75 : Nat) ({ cls := "SchemaSubjects$Schema", name := "named", desc := "(I)LSchemaSubjects$Field;" } : Jvm.MethodName)) ∈ zG := z_g 496 (by decide +kernel) (by decide +kernel)
theorem zw497 : (Jvm.Cond.methodLink "SchemaSubjects" (276 : Nat) ({ cls := "SchemaSubjects$Field", name := "isReadFromType", desc := "(I)Z" } : Jvm.MethodName)) ∈ zG := z_g 497 (by decide +kernel) (by decide +kernel)
theorem zw498 : (Jvm.Cond.instanceMethod ({ cls := "SchemaSubjects$Field", name := "isReadFromType", desc := "(I)Z" } : Jvm.MethodName)) ∈ zG := z_g 498 (by decide +kernel) (by decide +kernel)
theorem zw499 : (Jvm.Cond.selects "SchemaSubjects$Field" ({ cls := "SchemaSubjects$Field", name := "isReadFromType", desc := "(I)Z" } : Jvm.MethodName) ({ cls := "SchemaSubjects$Field", name := "isReadFromType", desc := "(I)Z" } : Jvm.MethodName)) ∈ zG := z_g 499 (by decide +kernel) (by decide +kernel)
theorem zw500 : (Jvm.Cond.code ({ cls := "SchemaSubjects$Field", name := "isReadFromType", desc := "(I)Z" } : Jvm.MethodName) prog_2_method_2_code (2 : Nat) (Option.some Jvm.ClassFile.FieldType.boolean)) ∈ zG := z_g 500 (by decide +kernel) (by decide +kernel)
theorem zw501 : (Jvm.Cond.methodLink "SchemaSubjects" (205 : Nat) ({ cls := "SchemaSubjects", name := "canReadSchema", desc := "(LSchemaSubjects$Schema;LSchemaSubjects$Schema;I)Z" } : Jvm.MethodName)) ∈ zG := z_g 501 (by decide +kernel) (by decide +kernel)
theorem zw502 : (Jvm.Cond.methodLink "SchemaSubjectsLaw" (29 : Nat) ({ cls := "SchemaSubjects", name := "register", desc := "(I)I" } : Jvm.MethodName)) ∈ zG := z_g 502 (by decide +kernel) (by decide +kernel)
theorem zw503 : (Jvm.Cond.instanceMethod ({ cls := "SchemaSubjects", name := "register", desc := "(I)I" } : Jvm.MethodName)) ∈ zG := z_g 503 (by decide +kernel) (by decide +kernel)
theorem zw504 : (Jvm.Cond.selects "SchemaSubjects" ({ cls := "SchemaSubjects", name := "register", desc := "(I)I" } : Jvm.MethodName) ({ cls := "SchemaSubjects", name := "register", desc := "(I)I" } : Jvm.MethodName)) ∈ zG := z_g 504 (by decide +kernel) (by decide +kernel)
theorem zw505 : (Jvm.Cond.code ({ cls := "SchemaSubjects", name := "register", desc := "(I)I" } : Jvm.MethodName) prog_1_method_6_code (5 : Nat) (Option.some Jvm.ClassFile.FieldType.int)) ∈ zG := z_g 505 (by decide +kernel) (by decide +kernel)
theorem zw506 : (Jvm.Cond.methodLink "SchemaSubjects" (151 : Nat) ({ cls := "SchemaSubjects$Subject", name := "lowestLike", desc := "(LSchemaSubjects$Schema;)I" } : Jvm.MethodName)) ∈ zG := z_g 506 (by decide +kernel) (by decide +kernel)
theorem zw507 : (Jvm.Cond.instanceMethod ({ cls := "SchemaSubjects$Subject", name := "lowestLike", desc := "(LSchemaSubjects$Schema;)I" } : Jvm.MethodName)) ∈ zG := z_g 507 (by decide +kernel) (by decide +kernel)
theorem zw508 : (Jvm.Cond.selects "SchemaSubjects$Subject" ({ cls := "SchemaSubjects$Subject", name := "lowestLike", desc := "(LSchemaSubjects$Schema;)I" } : Jvm.MethodName) ({ cls := "SchemaSubjects$Subject", name := "lowestLike", desc := "(LSchemaSubjects$Schema;)I" } : Jvm.MethodName)) ∈ zG := z_g 508 (by decide +kernel) (by decide +kernel)
theorem zw509 : (Jvm.Cond.code ({ cls := "SchemaSubjects$Subject", name := "lowestLike", desc := "(LSchemaSubjects$Schema;)I" } : Jvm.MethodName) prog_5_method_4_code (4 : Nat) (Option.some Jvm.ClassFile.FieldType.int)) ∈ zG := z_g 509 (by decide +kernel) (by decide +kernel)
theorem zw510 : (Jvm.Cond.methodLink "SchemaSubjects$Subject" (36 : Nat) ({ cls := "SchemaSubjects$Schema", name := "isLike", desc := "(LSchemaSubjects$Schema;)Z" } : Jvm.MethodName)) ∈ zG := z_g 510 (by decide +kernel) (by decide +kernel)
theorem zw511 : (Jvm.Cond.instanceMethod ({ cls := "SchemaSubjects$Schema", name := "isLike", desc := "(LSchemaSubjects$Schema;)Z" } : Jvm.MethodName)) ∈ zG := z_g 511 (by decide +kernel) (by decide +kernel)
theorem zw512 : (Jvm.Cond.selects "SchemaSubjects$Schema" ({ cls := "SchemaSubjects$Schema", name := "isLike", desc := "(LSchemaSubjects$Schema;)Z" } : Jvm.MethodName) ({ cls := "SchemaSubjects$Schema", name := "isLike", desc := "(LSchemaSubjects$Schema;)Z" } : Jvm.MethodName)) ∈ zG := z_g 512 (by decide +kernel) (by decide +kernel)
theorem zw513 : (Jvm.Cond.code ({ cls := "SchemaSubjects$Schema", name := "isLike", desc := "(LSchemaSubjects$Schema;)Z" } : Jvm.MethodName) prog_4_method_8_code (3 : Nat) (Option.some Jvm.ClassFile.FieldType.boolean)) ∈ zG := z_g 513 (by decide +kernel) (by decide +kernel)
theorem zw514 : (Jvm.Cond.methodLink "SchemaSubjects$Schema" (85 : Nat) ({ cls := "SchemaSubjects$Field", name := "isLike", desc := "(LSchemaSubjects$Field;)Z" } : Jvm.MethodName)) ∈ zG := z_g 514 (by decide +kernel) (by decide +kernel)
theorem zw515 : (Jvm.Cond.instanceMethod ({ cls := "SchemaSubjects$Field", name := "isLike", desc := "(LSchemaSubjects$Field;)Z" } : Jvm.MethodName)) ∈ zG := z_g 515 (by decide +kernel) (by decide +kernel)
theorem zw516 : (Jvm.Cond.selects "SchemaSubjects$Field" ({ cls := "SchemaSubjects$Field", name := "isLike", desc := "(LSchemaSubjects$Field;)Z" } : Jvm.MethodName) ({ cls := "SchemaSubjects$Field", name := "isLike", desc := "(LSchemaSubjects$Field;)Z" } : Jvm.MethodName)) ∈ zG := z_g 516 (by decide +kernel) (by decide +kernel)
theorem zw517 : (Jvm.Cond.code ({ cls := "SchemaSubjects$Field", name := "isLike", desc := "(LSchemaSubjects$Field;)Z" } : Jvm.MethodName) prog_2_method_3_code (2 : Nat) (Option.some Jvm.ClassFile.FieldType.boolean)) ∈ zG := z_g 517 (by decide +kernel) (by decide +kernel)
theorem zw518 : (Jvm.Cond.methodLink "SchemaSubjects" (137 : Nat) ({ cls := "SchemaSubjects$Schema", name := "empty", desc := "()V" } : Jvm.MethodName)) ∈ zG := z_g 518 (by decide +kernel) (by decide +kernel)
theorem zw519 : (Jvm.Cond.instanceMethod ({ cls := "SchemaSubjects$Schema", name := "empty", desc := "()V" } : Jvm.MethodName)) ∈ zG := z_g 519 (by decide +kernel) (by decide +kernel)
theorem zw520 : (Jvm.Cond.selects "SchemaSubjects$Schema" ({ cls := "SchemaSubjects$Schema", name := "empty", desc := "()V" } : Jvm.MethodName) ({ cls := "SchemaSubjects$Schema", name := "empty", desc := "()V" } : Jvm.MethodName)) ∈ zG := z_g 520 (by decide +kernel) (by decide +kernel)
theorem zw521 : (Jvm.Cond.code ({ cls := "SchemaSubjects$Schema", name := "empty", desc := "()V" } : Jvm.MethodName) prog_4_method_3_code (1 : Nat) (Option.none : Option Jvm.ClassFile.FieldType)) ∈ zG := z_g 521 (by decide +kernel) (by decide +kernel)
theorem zw522 : (Jvm.Cond.methodLink "SchemaSubjects$Schema" (56 : Nat) ({ cls := "java/util/ArrayList", name := "clear", desc := "()V" } : Jvm.MethodName)) ∈ zG := z_g 522 (by decide +kernel) (by decide +kernel)
theorem zw523 : (Jvm.Cond.instanceMethod ({ cls := "java/util/ArrayList", name := "clear", desc := "()V" } : Jvm.MethodName)) ∈ zG := z_g 523 (by decide +kernel) (by decide +kernel)
theorem zw524 : (Jvm.Cond.selects "java/util/ArrayList" ({ cls := "java/util/ArrayList", name := "clear", desc := "()V" } : Jvm.MethodName) ({ cls := "java/util/ArrayList", name := "clear", desc := "()V" } : Jvm.MethodName)) ∈ zG := z_g 524 (by decide +kernel) (by decide +kernel)
theorem zw525 : (Jvm.Cond.code ({ cls := "java/util/ArrayList", name := "clear", desc := "()V" } : Jvm.MethodName) prog_23_method_40_code (4 : Nat) (Option.none : Option Jvm.ClassFile.FieldType)) ∈ zG := z_g 525 (by decide +kernel) (by decide +kernel)
theorem zw526 : (Jvm.Cond.methodLink "SchemaSubjects$Schema" (59 : Nat) ({ cls := "SchemaSubjects$Row", name := "empty", desc := "()V" } : Jvm.MethodName)) ∈ zG := z_g 526 (by decide +kernel) (by decide +kernel)
theorem zw527 : (Jvm.Cond.instanceMethod ({ cls := "SchemaSubjects$Row", name := "empty", desc := "()V" } : Jvm.MethodName)) ∈ zG := z_g 527 (by decide +kernel) (by decide +kernel)
theorem zw528 : (Jvm.Cond.selects "SchemaSubjects$Row" ({ cls := "SchemaSubjects$Row", name := "empty", desc := "()V" } : Jvm.MethodName) ({ cls := "SchemaSubjects$Row", name := "empty", desc := "()V" } : Jvm.MethodName)) ∈ zG := z_g 528 (by decide +kernel) (by decide +kernel)
theorem zw529 : (Jvm.Cond.code ({ cls := "SchemaSubjects$Row", name := "empty", desc := "()V" } : Jvm.MethodName) prog_3_method_6_code (1 : Nat) (Option.none : Option Jvm.ClassFile.FieldType)) ∈ zG := z_g 529 (by decide +kernel) (by decide +kernel)
theorem zw531 : (Jvm.Cond.classLink "SchemaSubjects" (160 : Nat) "SchemaSubjects$Version") ∈ zG := z_g 531 (by decide +kernel) (by decide +kernel)
theorem zw532 : (Jvm.Cond.instantiable "SchemaSubjects$Version" (2 : Nat)) ∈ zG := z_g 532 (by decide +kernel) (by decide +kernel)
theorem zw533 : (Jvm.Cond.methodLink "SchemaSubjects" (162 : Nat) ({ cls := "SchemaSubjects", name := "takeDraft", desc := "()LSchemaSubjects$Schema;" } : Jvm.MethodName)) ∈ zG := z_g 533 (by decide +kernel) (by decide +kernel)
theorem zw535 : (Jvm.Cond.instanceMethod ({ cls := "SchemaSubjects", name := "takeDraft", desc := "()LSchemaSubjects$Schema;" } : Jvm.MethodName)) ∈ zG := z_g 535 (by decide +kernel) (by decide +kernel)
theorem zw536 : (Jvm.Cond.code ({ cls := "SchemaSubjects", name := "takeDraft", desc := "()LSchemaSubjects$Schema;" } : Jvm.MethodName) prog_1_method_32_code (2 : Nat) (Option.some (Jvm.ClassFile.FieldType.object "SchemaSubjects$Schema"))) ∈ zG := z_g 536 (by decide +kernel) (by decide +kernel)
theorem zw537 : (Jvm.Cond.methodLink "SchemaSubjects" (265 : Nat) ({ cls := "SchemaSubjects$Schema", name := "isLike", desc := "(LSchemaSubjects$Schema;)Z" } : Jvm.MethodName)) ∈ zG := z_g 537 (by decide +kernel) (by decide +kernel)
theorem zw538 : (Jvm.Cond.methodLink "SchemaSubjects" (166 : Nat) ({ cls := "SchemaSubjects$Version", name := "<init>", desc := "(LSchemaSubjects$Schema;)V" } : Jvm.MethodName)) ∈ zG := z_g 538 (by decide +kernel) (by decide +kernel)
theorem zw539 : (Jvm.Cond.instanceMethod ({ cls := "SchemaSubjects$Version", name := "<init>", desc := "(LSchemaSubjects$Schema;)V" } : Jvm.MethodName)) ∈ zG := z_g 539 (by decide +kernel) (by decide +kernel)
theorem zw540 : (Jvm.Cond.code ({ cls := "SchemaSubjects$Version", name := "<init>", desc := "(LSchemaSubjects$Schema;)V" } : Jvm.MethodName) prog_6_method_1_code (2 : Nat) (Option.none : Option Jvm.ClassFile.FieldType)) ∈ zG := z_g 540 (by decide +kernel) (by decide +kernel)
theorem zw541 : (Jvm.Cond.methodLink "SchemaSubjects$Version" (3 : Nat) ({ cls := "java/lang/Object", name := "<init>", desc := "()V" } : Jvm.MethodName)) ∈ zG := z_g 541 (by decide +kernel) (by decide +kernel)
theorem zw542 : (Jvm.Cond.fieldLink "SchemaSubjects$Version" (9 : Nat) "SchemaSubjects$Version" "schema" "LSchemaSubjects$Schema;") ∈ zG := z_g 542 (by decide +kernel) (by decide +kernel)
theorem zw543 : (Jvm.Cond.fieldLink "SchemaSubjects$Subject" (32 : Nat) "SchemaSubjects$Version" "schema" "LSchemaSubjects$Schema;") ∈ zG := z_g 543 (by decide +kernel) (by decide +kernel)
theorem zw544 : (Jvm.Cond.fieldLink "SchemaSubjects" (252 : Nat) "SchemaSubjects$Version" "schema" "LSchemaSubjects$Schema;") ∈ zG := z_g 544 (by decide +kernel) (by decide +kernel)
theorem zw545 : (Jvm.Cond.fieldLink "SchemaSubjects$Version" (15 : Nat) "SchemaSubjects$Version" "state" "I") ∈ zG := z_g 545 (by decide +kernel) (by decide +kernel)
theorem zw546 : (Jvm.Cond.fieldLink "SchemaSubjects$Subject" (28 : Nat) "SchemaSubjects$Version" "state" "I") ∈ zG := z_g 546 (by decide +kernel) (by decide +kernel)
theorem zw547 : (Jvm.Cond.fieldLink "SchemaSubjects" (181 : Nat) "SchemaSubjects$Version" "state" "I") ∈ zG := z_g 547 (by decide +kernel) (by decide +kernel)
theorem zw553 : (Jvm.Cond.methodLink "SchemaSubjectsLaw" (32 : Nat) ({ cls := "SchemaSubjects", name := "setMode", desc := "(IIZ)I" } : Jvm.MethodName)) ∈ zG := z_g 553 (by decide +kernel) (by decide +kernel)
theorem zw554 : (Jvm.Cond.instanceMethod ({ cls := "SchemaSubjects", name := "setMode", desc := "(IIZ)I" } : Jvm.MethodName)) ∈ zG := z_g 554 (by decide +kernel) (by decide +kernel)
theorem zw555 : (Jvm.Cond.selects "SchemaSubjects" ({ cls := "SchemaSubjects", name := "setMode", desc := "(IIZ)I" } : Jvm.MethodName) ({ cls := "SchemaSubjects", name := "setMode", desc := "(IIZ)I" } : Jvm.MethodName)) ∈ zG := z_g 555 (by decide +kernel) (by decide +kernel)
theorem zw556 : (Jvm.Cond.code ({ cls := "SchemaSubjects", name := "setMode", desc := "(IIZ)I" } : Jvm.MethodName) prog_1_method_7_code (6 : Nat) (Option.some Jvm.ClassFile.FieldType.int)) ∈ zG := z_g 556 (by decide +kernel) (by decide +kernel)
theorem zw558 : (Jvm.Cond.methodLink "SchemaSubjectsLaw" (36 : Nat) ({ cls := "SchemaSubjects", name := "delete", desc := "(IIZ)I" } : Jvm.MethodName)) ∈ zG := z_g 558 (by decide +kernel) (by decide +kernel)
theorem zw559 : (Jvm.Cond.instanceMethod ({ cls := "SchemaSubjects", name := "delete", desc := "(IIZ)I" } : Jvm.MethodName)) ∈ zG := z_g 559 (by decide +kernel) (by decide +kernel)
theorem zw560 : (Jvm.Cond.selects "SchemaSubjects" ({ cls := "SchemaSubjects", name := "delete", desc := "(IIZ)I" } : Jvm.MethodName) ({ cls := "SchemaSubjects", name := "delete", desc := "(IIZ)I" } : Jvm.MethodName)) ∈ zG := z_g 560 (by decide +kernel) (by decide +kernel)
theorem zw561 : (Jvm.Cond.code ({ cls := "SchemaSubjects", name := "delete", desc := "(IIZ)I" } : Jvm.MethodName) prog_1_method_8_code (6 : Nat) (Option.some Jvm.ClassFile.FieldType.int)) ∈ zG := z_g 561 (by decide +kernel) (by decide +kernel)
theorem zw562 : (Jvm.Cond.methodLink "SchemaSubjects" (177 : Nat) ({ cls := "SchemaSubjects", name := "demandedVersion", desc := "(LSchemaSubjects$Subject;I)LSchemaSubjects$Version;" } : Jvm.MethodName)) ∈ zG := z_g 562 (by decide +kernel) (by decide +kernel)
theorem zw563 : (Jvm.Cond.static ({ cls := "SchemaSubjects", name := "demandedVersion", desc := "(LSchemaSubjects$Subject;I)LSchemaSubjects$Version;" } : Jvm.MethodName)) ∈ zG := z_g 563 (by decide +kernel) (by decide +kernel)
theorem zw564 : (Jvm.Cond.code ({ cls := "SchemaSubjects", name := "demandedVersion", desc := "(LSchemaSubjects$Subject;I)LSchemaSubjects$Version;" } : Jvm.MethodName) prog_1_method_22_code (3 : Nat) (Option.some (Jvm.ClassFile.FieldType.object "SchemaSubjects$Version"))) ∈ zG := z_g 564 (by decide +kernel) (by decide +kernel)
theorem zw566 : (Jvm.Cond.methodLink "SchemaSubjects" (184 : Nat) ({ cls := "SchemaSubjects", name := "isReferredTo", desc := "(I)Z" } : Jvm.MethodName)) ∈ zG := z_g 566 (by decide +kernel) (by decide +kernel)
theorem zw568 : (Jvm.Cond.instanceMethod ({ cls := "SchemaSubjects", name := "isReferredTo", desc := "(I)Z" } : Jvm.MethodName)) ∈ zG := z_g 568 (by decide +kernel) (by decide +kernel)
theorem zw569 : (Jvm.Cond.code ({ cls := "SchemaSubjects", name := "isReferredTo", desc := "(I)Z" } : Jvm.MethodName) prog_1_method_31_code (3 : Nat) (Option.some Jvm.ClassFile.FieldType.boolean)) ∈ zG := z_g 569 (by decide +kernel) (by decide +kernel)
theorem zw570 : (Jvm.Cond.methodLink "SchemaSubjects" (261 : Nat) ({ cls := "SchemaSubjects$Schema", name := "refersTo", desc := "(I)Z" } : Jvm.MethodName)) ∈ zG := z_g 570 (by decide +kernel) (by decide +kernel)
theorem zw571 : (Jvm.Cond.instanceMethod ({ cls := "SchemaSubjects$Schema", name := "refersTo", desc := "(I)Z" } : Jvm.MethodName)) ∈ zG := z_g 571 (by decide +kernel) (by decide +kernel)
theorem zw572 : (Jvm.Cond.selects "SchemaSubjects$Schema" ({ cls := "SchemaSubjects$Schema", name := "refersTo", desc := "(I)Z" } : Jvm.MethodName) ({ cls := "SchemaSubjects$Schema", name := "refersTo", desc := "(I)Z" } : Jvm.MethodName)) ∈ zG := z_g 572 (by decide +kernel) (by decide +kernel)
theorem zw573 : (Jvm.Cond.code ({ cls := "SchemaSubjects$Schema", name := "refersTo", desc := "(I)Z" } : Jvm.MethodName) prog_4_method_7_code (3 : Nat) (Option.some Jvm.ClassFile.FieldType.boolean)) ∈ zG := z_g 573 (by decide +kernel) (by decide +kernel)
theorem zw574 : (Jvm.Cond.methodLink "SchemaSubjects" (264 : Nat) ({ cls := "SchemaSubjects$Subject", name := "refersTo", desc := "(I)Z" } : Jvm.MethodName)) ∈ zG := z_g 574 (by decide +kernel) (by decide +kernel)
theorem zw575 : (Jvm.Cond.instanceMethod ({ cls := "SchemaSubjects$Subject", name := "refersTo", desc := "(I)Z" } : Jvm.MethodName)) ∈ zG := z_g 575 (by decide +kernel) (by decide +kernel)
theorem zw576 : (Jvm.Cond.selects "SchemaSubjects$Subject" ({ cls := "SchemaSubjects$Subject", name := "refersTo", desc := "(I)Z" } : Jvm.MethodName) ({ cls := "SchemaSubjects$Subject", name := "refersTo", desc := "(I)Z" } : Jvm.MethodName)) ∈ zG := z_g 576 (by decide +kernel) (by decide +kernel)
theorem zw577 : (Jvm.Cond.code ({ cls := "SchemaSubjects$Subject", name := "refersTo", desc := "(I)Z" } : Jvm.MethodName) prog_5_method_5_code (4 : Nat) (Option.some Jvm.ClassFile.FieldType.boolean)) ∈ zG := z_g 577 (by decide +kernel) (by decide +kernel)
theorem zw578 : (Jvm.Cond.methodLink "SchemaSubjects$Subject" (42 : Nat) ({ cls := "SchemaSubjects$Schema", name := "refersTo", desc := "(I)Z" } : Jvm.MethodName)) ∈ zG := z_g 578 (by decide +kernel) (by decide +kernel)
theorem zw581 : (Jvm.Cond.methodLink "SchemaSubjects" (191 : Nat) ({ cls := "SchemaSubjects$Subject", name := "countThere", desc := "()I" } : Jvm.MethodName)) ∈ zG := z_g 581 (by decide +kernel) (by decide +kernel)
theorem zw582 : (Jvm.Cond.instanceMethod ({ cls := "SchemaSubjects$Subject", name := "countThere", desc := "()I" } : Jvm.MethodName)) ∈ zG := z_g 582 (by decide +kernel) (by decide +kernel)
theorem zw583 : (Jvm.Cond.selects "SchemaSubjects$Subject" ({ cls := "SchemaSubjects$Subject", name := "countThere", desc := "()I" } : Jvm.MethodName) ({ cls := "SchemaSubjects$Subject", name := "countThere", desc := "()I" } : Jvm.MethodName)) ∈ zG := z_g 583 (by decide +kernel) (by decide +kernel)
theorem zw584 : (Jvm.Cond.code ({ cls := "SchemaSubjects$Subject", name := "countThere", desc := "()I" } : Jvm.MethodName) prog_5_method_3_code (3 : Nat) (Option.some Jvm.ClassFile.FieldType.int)) ∈ zG := z_g 584 (by decide +kernel) (by decide +kernel)
theorem zw585 : (Jvm.Cond.methodLink "SchemaSubjectsLaw" (39 : Nat) ({ cls := "SchemaSubjects", name := "number", desc := "(II)I" } : Jvm.MethodName)) ∈ zG := z_g 585 (by decide +kernel) (by decide +kernel)
theorem zw586 : (Jvm.Cond.instanceMethod ({ cls := "SchemaSubjects", name := "number", desc := "(II)I" } : Jvm.MethodName)) ∈ zG := z_g 586 (by decide +kernel) (by decide +kernel)
theorem zw587 : (Jvm.Cond.selects "SchemaSubjects" ({ cls := "SchemaSubjects", name := "number", desc := "(II)I" } : Jvm.MethodName) ({ cls := "SchemaSubjects", name := "number", desc := "(II)I" } : Jvm.MethodName)) ∈ zG := z_g 587 (by decide +kernel) (by decide +kernel)
theorem zw588 : (Jvm.Cond.code ({ cls := "SchemaSubjects", name := "number", desc := "(II)I" } : Jvm.MethodName) prog_1_method_10_code (3 : Nat) (Option.some Jvm.ClassFile.FieldType.int)) ∈ zG := z_g 588 (by decide +kernel) (by decide +kernel)
theorem zw589 : (Jvm.Cond.methodLink "SchemaSubjects" (194 : Nat) ({ cls := "SchemaSubjects", name := "demandedSchema", desc := "(II)LSchemaSubjects$Schema;" } : Jvm.MethodName)) ∈ zG := z_g 589 (by decide +kernel) (by decide +kernel)
theorem zw591 : (Jvm.Cond.instanceMethod ({ cls := "SchemaSubjects", name := "demandedSchema", desc := "(II)LSchemaSubjects$Schema;" } : Jvm.MethodName)) ∈ zG := z_g 591 (by decide +kernel) (by decide +kernel)
theorem zw592 : (Jvm.Cond.code ({ cls := "SchemaSubjects", name := "demandedSchema", desc := "(II)LSchemaSubjects$Schema;" } : Jvm.MethodName) prog_1_method_23_code (3 : Nat) (Option.some (Jvm.ClassFile.FieldType.object "SchemaSubjects$Schema"))) ∈ zG := z_g 592 (by decide +kernel) (by decide +kernel)
theorem zw593 : (Jvm.Cond.methodLink "SchemaSubjectsLaw" (43 : Nat) ({ cls := "SchemaSubjects", name := "length", desc := "(II)I" } : Jvm.MethodName)) ∈ zG := z_g 593 (by decide +kernel) (by decide +kernel)
theorem zw594 : (Jvm.Cond.instanceMethod ({ cls := "SchemaSubjects", name := "length", desc := "(II)I" } : Jvm.MethodName)) ∈ zG := z_g 594 (by decide +kernel) (by decide +kernel)
theorem zw595 : (Jvm.Cond.selects "SchemaSubjects" ({ cls := "SchemaSubjects", name := "length", desc := "(II)I" } : Jvm.MethodName) ({ cls := "SchemaSubjects", name := "length", desc := "(II)I" } : Jvm.MethodName)) ∈ zG := z_g 595 (by decide +kernel) (by decide +kernel)
theorem zw596 : (Jvm.Cond.code ({ cls := "SchemaSubjects", name := "length", desc := "(II)I" } : Jvm.MethodName) prog_1_method_12_code (3 : Nat) (Option.some Jvm.ClassFile.FieldType.int)) ∈ zG := z_g 596 (by decide +kernel) (by decide +kernel)
theorem zw597 : (Jvm.Cond.methodLink "SchemaSubjectsLaw" (46 : Nat) ({ cls := "SchemaSubjects", name := "value", desc := "(I)I" } : Jvm.MethodName)) ∈ zG := z_g 597 (by decide +kernel) (by decide +kernel)
theorem zw598 : (Jvm.Cond.instanceMethod ({ cls := "SchemaSubjects", name := "value", desc := "(I)I" } : Jvm.MethodName)) ∈ zG := z_g 598 (by decide +kernel) (by decide +kernel)
theorem zw599 : (Jvm.Cond.selects "SchemaSubjects" ({ cls := "SchemaSubjects", name := "value", desc := "(I)I" } : Jvm.MethodName) ({ cls := "SchemaSubjects", name := "value", desc := "(I)I" } : Jvm.MethodName)) ∈ zG := z_g 599 (by decide +kernel) (by decide +kernel)
theorem zw600 : (Jvm.Cond.code ({ cls := "SchemaSubjects", name := "value", desc := "(I)I" } : Jvm.MethodName) prog_1_method_15_code (2 : Nat) (Option.some Jvm.ClassFile.FieldType.int)) ∈ zG := z_g 600 (by decide +kernel) (by decide +kernel)
theorem zw602 : (Jvm.Cond.methodLink "SchemaSubjects" (226 : Nat) ({ cls := "SchemaSubjects$Row", name := "add", desc := "(I)V" } : Jvm.MethodName)) ∈ zG := z_g 602 (by decide +kernel) (by decide +kernel)
theorem zw603 : (Jvm.Cond.methodLink "SchemaSubjectsLaw" (49 : Nat) ({ cls := "SchemaSubjects", name := "isRecord", desc := "(II)Z" } : Jvm.MethodName)) ∈ zG := z_g 603 (by decide +kernel) (by decide +kernel)
theorem zw604 : (Jvm.Cond.instanceMethod ({ cls := "SchemaSubjects", name := "isRecord", desc := "(II)Z" } : Jvm.MethodName)) ∈ zG := z_g 604 (by decide +kernel) (by decide +kernel)
theorem zw605 : (Jvm.Cond.selects "SchemaSubjects" ({ cls := "SchemaSubjects", name := "isRecord", desc := "(II)Z" } : Jvm.MethodName) ({ cls := "SchemaSubjects", name := "isRecord", desc := "(II)Z" } : Jvm.MethodName)) ∈ zG := z_g 605 (by decide +kernel) (by decide +kernel)
theorem zw606 : (Jvm.Cond.code ({ cls := "SchemaSubjects", name := "isRecord", desc := "(II)Z" } : Jvm.MethodName) prog_1_method_17_code (3 : Nat) (Option.some Jvm.ClassFile.FieldType.boolean)) ∈ zG := z_g 606 (by decide +kernel) (by decide +kernel)
theorem zw607 : (Jvm.Cond.methodLink "SchemaSubjects" (229 : Nat) ({ cls := "SchemaSubjects", name := "isRecordOf", desc := "(LSchemaSubjects$Schema;)Z" } : Jvm.MethodName)) ∈ zG := z_g 607 (by decide +kernel) (by decide +kernel)
theorem zw609 : (Jvm.Cond.instanceMethod ({ cls := "SchemaSubjects", name := "isRecordOf", desc := "(LSchemaSubjects$Schema;)Z" } : Jvm.MethodName)) ∈ zG := z_g 609 (by decide +kernel) (by decide +kernel)
theorem zw610 : (Jvm.Cond.code ({ cls := "SchemaSubjects", name := "isRecordOf", desc := "(LSchemaSubjects$Schema;)Z" } : Jvm.MethodName) prog_1_method_35_code (3 : Nat) (Option.some Jvm.ClassFile.FieldType.boolean)) ∈ zG := z_g 610 (by decide +kernel) (by decide +kernel)
theorem zw611 : (Jvm.Cond.methodLink "SchemaSubjects" (236 : Nat) ({ cls := "SchemaSubjects$Row", name := "at", desc := "(I)I" } : Jvm.MethodName)) ∈ zG := z_g 611 (by decide +kernel) (by decide +kernel)
theorem zw612 : (Jvm.Cond.methodLink "SchemaSubjectsLaw" (53 : Nat) ({ cls := "SchemaSubjects", name := "valueAt", desc := "(I)I" } : Jvm.MethodName)) ∈ zG := z_g 612 (by decide +kernel) (by decide +kernel)
theorem zw613 : (Jvm.Cond.instanceMethod ({ cls := "SchemaSubjects", name := "valueAt", desc := "(I)I" } : Jvm.MethodName)) ∈ zG := z_g 613 (by decide +kernel) (by decide +kernel)
theorem zw614 : (Jvm.Cond.selects "SchemaSubjects" ({ cls := "SchemaSubjects", name := "valueAt", desc := "(I)I" } : Jvm.MethodName) ({ cls := "SchemaSubjects", name := "valueAt", desc := "(I)I" } : Jvm.MethodName)) ∈ zG := z_g 614 (by decide +kernel) (by decide +kernel)
theorem zw615 : (Jvm.Cond.code ({ cls := "SchemaSubjects", name := "valueAt", desc := "(I)I" } : Jvm.MethodName) prog_1_method_19_code (2 : Nat) (Option.some Jvm.ClassFile.FieldType.int)) ∈ zG := z_g 615 (by decide +kernel) (by decide +kernel)
theorem zw617 : (Jvm.Cond.methodLink "SchemaSubjectsLaw" (78 : Nat) ({ cls := "SchemaSubjects", name := "discard", desc := "()I" } : Jvm.MethodName)) ∈ zG := z_g 617 (by decide +kernel) (by decide +kernel)
theorem zw618 : (Jvm.Cond.instanceMethod ({ cls := "SchemaSubjects", name := "discard", desc := "()I" } : Jvm.MethodName)) ∈ zG := z_g 618 (by decide +kernel) (by decide +kernel)
theorem zw619 : (Jvm.Cond.selects "SchemaSubjects" ({ cls := "SchemaSubjects", name := "discard", desc := "()I" } : Jvm.MethodName) ({ cls := "SchemaSubjects", name := "discard", desc := "()I" } : Jvm.MethodName)) ∈ zG := z_g 619 (by decide +kernel) (by decide +kernel)
theorem zw620 : (Jvm.Cond.code ({ cls := "SchemaSubjects", name := "discard", desc := "()I" } : Jvm.MethodName) prog_1_method_4_code (2 : Nat) (Option.some Jvm.ClassFile.FieldType.int)) ∈ zG := z_g 620 (by decide +kernel) (by decide +kernel)
theorem zw621 : (Jvm.Cond.methodLink "SchemaSubjectsLaw" (82 : Nat) ({ cls := "SchemaSubjects", name := "clear", desc := "()I" } : Jvm.MethodName)) ∈ zG := z_g 621 (by decide +kernel) (by decide +kernel)
theorem zw622 : (Jvm.Cond.instanceMethod ({ cls := "SchemaSubjects", name := "clear", desc := "()I" } : Jvm.MethodName)) ∈ zG := z_g 622 (by decide +kernel) (by decide +kernel)
theorem zw623 : (Jvm.Cond.selects "SchemaSubjects" ({ cls := "SchemaSubjects", name := "clear", desc := "()I" } : Jvm.MethodName) ({ cls := "SchemaSubjects", name := "clear", desc := "()I" } : Jvm.MethodName)) ∈ zG := z_g 623 (by decide +kernel) (by decide +kernel)
theorem zw624 : (Jvm.Cond.code ({ cls := "SchemaSubjects", name := "clear", desc := "()I" } : Jvm.MethodName) prog_1_method_16_code (2 : Nat) (Option.some Jvm.ClassFile.FieldType.int)) ∈ zG := z_g 624 (by decide +kernel) (by decide +kernel)
theorem zw625 : (Jvm.Cond.methodLink "SchemaSubjects" (219 : Nat) ({ cls := "SchemaSubjects$Row", name := "empty", desc := "()V" } : Jvm.MethodName)) ∈ zG := z_g 625 (by decide +kernel) (by decide +kernel)
theorem zw626 : (Jvm.Cond.methodLink "SchemaSubjectsLaw" (85 : Nat) ({ cls := "SchemaSubjectsLaw", name := "reads", desc := "(LSchemaSubjects;III)I" } : Jvm.MethodName)) ∈ zG := z_g 626 (by decide +kernel) (by decide +kernel)
theorem zw627 : (Jvm.Cond.static ({ cls := "SchemaSubjectsLaw", name := "reads", desc := "(LSchemaSubjects;III)I" } : Jvm.MethodName)) ∈ zG := z_g 627 (by decide +kernel) (by decide +kernel)
theorem zw628 : (Jvm.Cond.codeWith ({ cls := "SchemaSubjectsLaw", name := "reads", desc := "(LSchemaSubjects;III)I" } : Jvm.MethodName) method_6_code (5 : Nat) (Option.some Jvm.ClassFile.FieldType.int) [((0 : Nat), (91 : Nat), (92 : Nat), (14 : Nat)), ((0 : Nat), (91 : Nat), (97 : Nat), (17 : Nat)), ((0 : Nat), (91 : Nat), (102 : Nat), (19 : Nat))]) ∈ zG := z_g 628 (by decide +kernel) (by decide +kernel)
theorem zw629 : (Jvm.Cond.methodLink "SchemaSubjectsLaw" (56 : Nat) ({ cls := "SchemaSubjects", name := "canRead", desc := "(IIII)Z" } : Jvm.MethodName)) ∈ zG := z_g 629 (by decide +kernel) (by decide +kernel)
theorem zw630 : (Jvm.Cond.instanceMethod ({ cls := "SchemaSubjects", name := "canRead", desc := "(IIII)Z" } : Jvm.MethodName)) ∈ zG := z_g 630 (by decide +kernel) (by decide +kernel)
theorem zw631 : (Jvm.Cond.selects "SchemaSubjects" ({ cls := "SchemaSubjects", name := "canRead", desc := "(IIII)Z" } : Jvm.MethodName) ({ cls := "SchemaSubjects", name := "canRead", desc := "(IIII)Z" } : Jvm.MethodName)) ∈ zG := z_g 631 (by decide +kernel) (by decide +kernel)
theorem zw632 : (Jvm.Cond.code ({ cls := "SchemaSubjects", name := "canRead", desc := "(IIII)Z" } : Jvm.MethodName) prog_1_method_13_code (7 : Nat) (Option.some Jvm.ClassFile.FieldType.boolean)) ∈ zG := z_g 632 (by decide +kernel) (by decide +kernel)
theorem zw633 : (Jvm.Cond.methodLink "SchemaSubjects" (201 : Nat) ({ cls := "SchemaSubjects", name := "demandSubjects", desc := "(II)V" } : Jvm.MethodName)) ∈ zG := z_g 633 (by decide +kernel) (by decide +kernel)
theorem zw635 : (Jvm.Cond.instanceMethod ({ cls := "SchemaSubjects", name := "demandSubjects", desc := "(II)V" } : Jvm.MethodName)) ∈ zG := z_g 635 (by decide +kernel) (by decide +kernel)
theorem zw636 : (Jvm.Cond.code ({ cls := "SchemaSubjects", name := "demandSubjects", desc := "(II)V" } : Jvm.MethodName) prog_1_method_21_code (3 : Nat) (Option.none : Option Jvm.ClassFile.FieldType)) ∈ zG := z_g 636 (by decide +kernel) (by decide +kernel)
theorem zw637 : (Jvm.Cond.methodLink "SchemaSubjectsLaw" (60 : Nat) ({ cls := "SchemaSubjects", name := "readsAll", desc := "(IIII)Z" } : Jvm.MethodName)) ∈ zG := z_g 637 (by decide +kernel) (by decide +kernel)
theorem zw638 : (Jvm.Cond.instanceMethod ({ cls := "SchemaSubjects", name := "readsAll", desc := "(IIII)Z" } : Jvm.MethodName)) ∈ zG := z_g 638 (by decide +kernel) (by decide +kernel)
theorem zw639 : (Jvm.Cond.selects "SchemaSubjects" ({ cls := "SchemaSubjects", name := "readsAll", desc := "(IIII)Z" } : Jvm.MethodName) ({ cls := "SchemaSubjects", name := "readsAll", desc := "(IIII)Z" } : Jvm.MethodName)) ∈ zG := z_g 639 (by decide +kernel) (by decide +kernel)
theorem zw640 : (Jvm.Cond.code ({ cls := "SchemaSubjects", name := "readsAll", desc := "(IIII)Z" } : Jvm.MethodName) prog_1_method_14_code (9 : Nat) (Option.some Jvm.ClassFile.FieldType.boolean)) ∈ zG := z_g 640 (by decide +kernel) (by decide +kernel)
theorem zw641 : (Jvm.Cond.methodLink "SchemaSubjects" (209 : Nat) ({ cls := "SchemaSubjects", name := "countSmallRecords", desc := "(LSchemaSubjects$Row;)I" } : Jvm.MethodName)) ∈ zG := z_g 641 (by decide +kernel) (by decide +kernel)
theorem zw642 : (Jvm.Cond.static ({ cls := "SchemaSubjects", name := "countSmallRecords", desc := "(LSchemaSubjects$Row;)I" } : Jvm.MethodName)) ∈ zG := z_g 642 (by decide +kernel) (by decide +kernel)
theorem zw643 : (Jvm.Cond.code ({ cls := "SchemaSubjects", name := "countSmallRecords", desc := "(LSchemaSubjects$Row;)I" } : Jvm.MethodName) prog_1_method_39_code (3 : Nat) (Option.some Jvm.ClassFile.FieldType.int)) ∈ zG := z_g 643 (by decide +kernel) (by decide +kernel)
theorem zw645 : (Jvm.Cond.methodLink "SchemaSubjects" (215 : Nat) ({ cls := "SchemaSubjects", name := "putSmallRecord", desc := "(LSchemaSubjects$Row;LSchemaSubjects$Row;I)V" } : Jvm.MethodName)) ∈ zG := z_g 645 (by decide +kernel) (by decide +kernel)
theorem zw646 : (Jvm.Cond.static ({ cls := "SchemaSubjects", name := "putSmallRecord", desc := "(LSchemaSubjects$Row;LSchemaSubjects$Row;I)V" } : Jvm.MethodName)) ∈ zG := z_g 646 (by decide +kernel) (by decide +kernel)
theorem zw647 : (Jvm.Cond.code ({ cls := "SchemaSubjects", name := "putSmallRecord", desc := "(LSchemaSubjects$Row;LSchemaSubjects$Row;I)V" } : Jvm.MethodName) prog_1_method_40_code (6 : Nat) (Option.none : Option Jvm.ClassFile.FieldType)) ∈ zG := z_g 647 (by decide +kernel) (by decide +kernel)
theorem zw648 : (Jvm.Cond.methodLink "SchemaSubjects" (220 : Nat) ({ cls := "SchemaSubjects", name := "readSchema", desc := "(LSchemaSubjects$Schema;LSchemaSubjects$Schema;LSchemaSubjects$Row;ILSchemaSubjects$Row;I)Z" } : Jvm.MethodName)) ∈ zG := z_g 648 (by decide +kernel) (by decide +kernel)
theorem zw649 : (Jvm.Cond.static ({ cls := "SchemaSubjects", name := "readSchema", desc := "(LSchemaSubjects$Schema;LSchemaSubjects$Schema;LSchemaSubjects$Row;ILSchemaSubjects$Row;I)Z" } : Jvm.MethodName)) ∈ zG := z_g 649 (by decide +kernel) (by decide +kernel)
theorem zw650 : (Jvm.Cond.code ({ cls := "SchemaSubjects", name := "readSchema", desc := "(LSchemaSubjects$Schema;LSchemaSubjects$Schema;LSchemaSubjects$Row;ILSchemaSubjects$Row;I)Z" } : Jvm.MethodName) prog_1_method_36_code (7 : Nat) (Option.some Jvm.ClassFile.FieldType.boolean)) ∈ zG := z_g 650 (by decide +kernel) (by decide +kernel)
theorem zw651 : (Jvm.Cond.methodLink "SchemaSubjects" (282 : Nat) ({ cls := "SchemaSubjects", name := "readField", desc := "(LSchemaSubjects$Field;LSchemaSubjects$Schema;LSchemaSubjects$Row;ILSchemaSubjects$Row;I)Z" } : Jvm.MethodName)) ∈ zG := z_g 651 (by decide +kernel) (by decide +kernel)
theorem zw652 : (Jvm.Cond.static ({ cls := "SchemaSubjects", name := "readField", desc := "(LSchemaSubjects$Field;LSchemaSubjects$Schema;LSchemaSubjects$Row;ILSchemaSubjects$Row;I)Z" } : Jvm.MethodName)) ∈ zG := z_g 652 (by decide +kernel) (by decide +kernel)
theorem zw653 : (Jvm.Cond.code ({ cls := "SchemaSubjects", name := "readField", desc := "(LSchemaSubjects$Field;LSchemaSubjects$Schema;LSchemaSubjects$Row;ILSchemaSubjects$Row;I)Z" } : Jvm.MethodName) prog_1_method_37_code (9 : Nat) (Option.some Jvm.ClassFile.FieldType.boolean)) ∈ zG := z_g 653 (by decide +kernel) (by decide +kernel)
theorem zw654 : (Jvm.Cond.methodLink "SchemaSubjects" (286 : Nat) ({ cls := "SchemaSubjects", name := "readDefault", desc := "(LSchemaSubjects$Field;LSchemaSubjects$Row;)Z" } : Jvm.MethodName)) ∈ zG := z_g 654 (by decide +kernel) (by decide +kernel)
theorem zw655 : (Jvm.Cond.static ({ cls := "SchemaSubjects", name := "readDefault", desc := "(LSchemaSubjects$Field;LSchemaSubjects$Row;)Z" } : Jvm.MethodName)) ∈ zG := z_g 655 (by decide +kernel) (by decide +kernel)
theorem zw656 : (Jvm.Cond.code ({ cls := "SchemaSubjects", name := "readDefault", desc := "(LSchemaSubjects$Field;LSchemaSubjects$Row;)Z" } : Jvm.MethodName) prog_1_method_38_code (2 : Nat) (Option.some Jvm.ClassFile.FieldType.boolean)) ∈ zG := z_g 656 (by decide +kernel) (by decide +kernel)
theorem zw657 : (Jvm.Cond.methodLink "SchemaSubjectsLaw" (63 : Nat) ({ cls := "SchemaSubjects", name := "read", desc := "(IIII)I" } : Jvm.MethodName)) ∈ zG := z_g 657 (by decide +kernel) (by decide +kernel)
theorem zw658 : (Jvm.Cond.instanceMethod ({ cls := "SchemaSubjects", name := "read", desc := "(IIII)I" } : Jvm.MethodName)) ∈ zG := z_g 658 (by decide +kernel) (by decide +kernel)
theorem zw659 : (Jvm.Cond.selects "SchemaSubjects" ({ cls := "SchemaSubjects", name := "read", desc := "(IIII)I" } : Jvm.MethodName) ({ cls := "SchemaSubjects", name := "read", desc := "(IIII)I" } : Jvm.MethodName)) ∈ zG := z_g 659 (by decide +kernel) (by decide +kernel)
theorem zw660 : (Jvm.Cond.code ({ cls := "SchemaSubjects", name := "read", desc := "(IIII)I" } : Jvm.MethodName) prog_1_method_18_code (8 : Nat) (Option.some Jvm.ClassFile.FieldType.int)) ∈ zG := z_g 660 (by decide +kernel) (by decide +kernel)
theorem zw662 : (Jvm.Cond.methodLink "SchemaSubjectsLaw" (100 : Nat) ({ cls := "SchemaSubjectsLaw", name := "areAlike", desc := "(LSchemaSubjects;LSchemaSubjects;I)Z" } : Jvm.MethodName)) ∈ zG := z_g 662 (by decide +kernel) (by decide +kernel)
theorem zw663 : (Jvm.Cond.static ({ cls := "SchemaSubjectsLaw", name := "areAlike", desc := "(LSchemaSubjects;LSchemaSubjects;I)Z" } : Jvm.MethodName)) ∈ zG := z_g 663 (by decide +kernel) (by decide +kernel)
theorem zw664 : (Jvm.Cond.code ({ cls := "SchemaSubjectsLaw", name := "areAlike", desc := "(LSchemaSubjects;LSchemaSubjects;I)Z" } : Jvm.MethodName) method_8_code (5 : Nat) (Option.some Jvm.ClassFile.FieldType.boolean)) ∈ zG := z_g 664 (by decide +kernel) (by decide +kernel)
theorem zw665 : (Jvm.Cond.methodLink "SchemaSubjectsLaw" (88 : Nat) ({ cls := "SchemaSubjects", name := "versions", desc := "(I)I" } : Jvm.MethodName)) ∈ zG := z_g 665 (by decide +kernel) (by decide +kernel)
theorem zw666 : (Jvm.Cond.instanceMethod ({ cls := "SchemaSubjects", name := "versions", desc := "(I)I" } : Jvm.MethodName)) ∈ zG := z_g 666 (by decide +kernel) (by decide +kernel)
theorem zw667 : (Jvm.Cond.selects "SchemaSubjects" ({ cls := "SchemaSubjects", name := "versions", desc := "(I)I" } : Jvm.MethodName) ({ cls := "SchemaSubjects", name := "versions", desc := "(I)I" } : Jvm.MethodName)) ∈ zG := z_g 667 (by decide +kernel) (by decide +kernel)
theorem zw668 : (Jvm.Cond.code ({ cls := "SchemaSubjects", name := "versions", desc := "(I)I" } : Jvm.MethodName) prog_1_method_9_code (2 : Nat) (Option.some Jvm.ClassFile.FieldType.int)) ∈ zG := z_g 668 (by decide +kernel) (by decide +kernel)
theorem zw669 : (Jvm.Cond.methodLink "SchemaSubjectsLaw" (104 : Nat) ({ cls := "SchemaSubjectsLaw", name := "areVersionsSo", desc := "(LSchemaSubjects;II)Z" } : Jvm.MethodName)) ∈ zG := z_g 669 (by decide +kernel) (by decide +kernel)
theorem zw670 : (Jvm.Cond.static ({ cls := "SchemaSubjectsLaw", name := "areVersionsSo", desc := "(LSchemaSubjects;II)Z" } : Jvm.MethodName)) ∈ zG := z_g 670 (by decide +kernel) (by decide +kernel)
theorem zw671 : (Jvm.Cond.code ({ cls := "SchemaSubjectsLaw", name := "areVersionsSo", desc := "(LSchemaSubjects;II)Z" } : Jvm.MethodName) method_9_code (10 : Nat) (Option.some Jvm.ClassFile.FieldType.boolean)) ∈ zG := z_g 671 (by decide +kernel) (by decide +kernel)
theorem zw672 : (Jvm.Cond.methodLink "SchemaSubjectsLaw" (108 : Nat) ({ cls := "SchemaSubjectsLaw", name := "isReadSo", desc := "(LSchemaSubjects;LSchemaSubjects;III)Z" } : Jvm.MethodName)) ∈ zG := z_g 672 (by decide +kernel) (by decide +kernel)
theorem zw673 : (Jvm.Cond.static ({ cls := "SchemaSubjectsLaw", name := "isReadSo", desc := "(LSchemaSubjects;LSchemaSubjects;III)Z" } : Jvm.MethodName)) ∈ zG := z_g 673 (by decide +kernel) (by decide +kernel)
theorem zw674 : (Jvm.Cond.code ({ cls := "SchemaSubjectsLaw", name := "isReadSo", desc := "(LSchemaSubjects;LSchemaSubjects;III)Z" } : Jvm.MethodName) method_10_code (11 : Nat) (Option.some Jvm.ClassFile.FieldType.boolean)) ∈ zG := z_g 674 (by decide +kernel) (by decide +kernel)
theorem zw676 : (Jvm.Cond.castable "SchemaSubjects" "java/lang/Object") ∈ zG := z_g 676 (by decide +kernel) (by decide +kernel)
theorem zw677 : (Jvm.Cond.castable "java/util/ArrayList" "java/lang/Object") ∈ zG := z_g 677 (by decide +kernel) (by decide +kernel)
theorem zw678 : (Jvm.Cond.castable "SchemaSubjects$Subject" "java/lang/Object") ∈ zG := z_g 678 (by decide +kernel) (by decide +kernel)
theorem zw679 : (Jvm.Cond.castable "SchemaSubjects$Schema" "java/lang/Object") ∈ zG := z_g 679 (by decide +kernel) (by decide +kernel)
theorem zw680 : (Jvm.Cond.castable "SchemaSubjects$Row" "java/lang/Object") ∈ zG := z_g 680 (by decide +kernel) (by decide +kernel)
theorem zw684 : (Jvm.Cond.castable "SchemaSubjects$Field" "java/lang/Object") ∈ zG := z_g 684 (by decide +kernel) (by decide +kernel)
theorem zw685 : (Jvm.Cond.castable "SchemaSubjects$Version" "java/lang/Object") ∈ zG := z_g 685 (by decide +kernel) (by decide +kernel)
theorem zw689 : (Jvm.Cond.selects "[Ljava/lang/Object;" ({ cls := "java/lang/Object", name := "getClass", desc := "()Ljava/lang/Class;" } : Jvm.MethodName) ({ cls := "java/lang/Object", name := "getClass", desc := "()Ljava/lang/Class;" } : Jvm.MethodName)) ∈ zG := z_g 689 (by decide +kernel) (by decide +kernel)
theorem zw690 : (Jvm.Cond.declares ({ cls := "java/lang/Object", name := "getClass", desc := "()Ljava/lang/Class;" } : Jvm.MethodName)) ∈ zG := z_g 690 (by decide +kernel) (by decide +kernel)
theorem zcast : zCast := by
  intro k q hq
  match k, hq with
  | 0, hq => cases hq; exact zw677
  | 1, hq => cases hq; exact zw684
  | 2, hq => cases hq; exact zw680
  | 3, hq => cases hq; exact zw679
  | 4, hq => cases hq; exact zw678
  | 5, hq => cases hq; exact zw685
  | 6, hq => cases hq; exact zw676
  | k + 7, hq => simp [vwCl] at hq
theorem zta_X5_57 : ∀ w ∈ vx_atS "SchemaSubjects" 57 "java/lang/IllegalArgumentException" zNs, w ∈ zG := z_in [25, 251, 260, 264, 267, 269, 252, 253, 41, 42, 254, 259, 265, 285, 241, 286, 243, 287, 245, 255, 257, 247, 281, 282, 284, 247, 272, 273, 274, 275, 233, 275, 276, 277, 278, 235, 278, 279, 280, 281, 237, 271, 230, 231, 238, 239, 240, 242, 244, 246, 250, 249, 248] (by decide +kernel) (by decide +kernel)
theorem zta_X5_95 : ∀ w ∈ vx_atS "SchemaSubjects" 95 "java/lang/IllegalStateException" zNs, w ∈ zG := z_in [25, 251, 260, 264, 267, 269, 252, 253, 41, 42, 254, 259, 265, 285, 241, 286, 243, 287, 245, 255, 257, 247, 281, 282, 284, 247, 368, 369, 370, 275, 233, 275, 276, 277, 278, 235, 278, 279, 280, 281, 237, 367, 358, 359, 360, 262, 361, 362, 363, 364, 250, 249, 365] (by decide +kernel) (by decide +kernel)
theorem zta_X5_73 : ∀ w ∈ vx_atS "SchemaSubjects" 73 "java/lang/IndexOutOfBoundsException" zNs, w ∈ zG := z_in [25, 251, 260, 264, 267, 269, 252, 253, 41, 42, 254, 259, 265, 285, 241, 286, 243, 287, 245, 255, 257, 247, 281, 282, 284, 247, 341, 342, 343, 275, 233, 275, 276, 277, 278, 235, 278, 279, 280, 281, 237, 340, 331, 332, 333, 263, 334, 335, 336, 337, 250, 249, 338] (by decide +kernel) (by decide +kernel)
theorem ki_Jxc12de_1 : zCi "java/util/AbstractList" 1 yJxa1e45_init_da8c8 cJxa1e45_init_da8c8 1 0 := ⟨⟨zw51, zw52, zw15, zw53, rfl⟩, by decide, by decide, by decide +kernel⟩
theorem fl_Jxc12de_7 : zFl "java/util/AbstractList" 7 0 0 RJx4a65c TJx4a65c 3 tyJx4a65c := ⟨rfl, zin_0, tyJx4a65c_ok, nmJx4a65c, by decide, "java/util/AbstractList", zw59, Or.inl rfl⟩
theorem ki_Jx4a65c_1 : zCi "java/util/ArrayList" 1 yJxc12de_init_da8c8 cJxc12de_init_da8c8 1 0 := ⟨⟨zw48, zw49, zw16, zw50, rfl⟩, by decide, by decide, by decide +kernel⟩
theorem fl_Jx4a65c_9 : zFl "java/util/ArrayList" 9 0 1 RJx4a65c TJx4a65c 3 tyJx4a65c := ⟨rfl, zin_0, tyJx4a65c_ok, nmJx4a65c, by decide, "java/util/ArrayList", zw57, Or.inl rfl⟩
theorem kn_X3_9 : zNc "SchemaSubjects$Subject" 9 0 RJx4a65c TJx4a65c 3 tyJx4a65c := ⟨rfl, zin_0, tyJx4a65c_ok, zw75, zw44, zw17⟩
theorem ki_X3_11 : zCi "SchemaSubjects$Subject" 11 yJx4a65c_init_da8c8 cJx4a65c_init_da8c8 1 0 := ⟨⟨zw76, zw46, zw17, zw47, rfl⟩, by decide, by decide, by decide +kernel⟩
theorem fl_X3_12 : zFl "SchemaSubjects$Subject" 12 4 0 RX3 TX3 3 tyX3 := ⟨rfl, zin_4, tyX3_ok, nmX3, by decide, "SchemaSubjects$Subject", zw77, Or.inl rfl⟩
theorem ks_J7_300 : zCs "java/util/Arrays" 300 yJ7_copyOf_6403c cJ7_copyOf_6403c 4 (some ((.array (.object "java/lang/Object")))) 3 := ⟨⟨zw133, zw134, zw21, zw135⟩, by decide, by decide, by decide +kernel⟩
theorem ks_Jx4a65c_73 : zCs "java/util/ArrayList" 73 yJ8_newLength_cabcc cJ8_newLength_cabcc 4 (some .int) 3 := ⟨⟨zw106, zw107, zw19, zw108⟩, by decide, by decide, by decide +kernel⟩
theorem ks_Jx4a65c_66 : zCs "java/util/ArrayList" 66 yJ7_copyOf_1904c cJ7_copyOf_1904c 2 (some ((.array (.object "java/lang/Object")))) 2 := ⟨⟨zw116, zw117, zw21, zw118⟩, by decide, by decide, by decide +kernel⟩
theorem fl_Jx4a65c_48 : zFl "java/util/ArrayList" 48 0 2 RJx4a65c TJx4a65c 3 tyJx4a65c := ⟨rfl, zin_0, tyJx4a65c_ok, nmJx4a65c, by decide, "java/util/ArrayList", zw58, Or.inl rfl⟩
theorem kv_Jx4a65c_69 : zCv "java/util/ArrayList" 69 "java/util/ArrayList" yJx4a65c_grow_92f84 cJx4a65c_grow_92f84 4 (some ((.array (.object "java/lang/Object")))) 1 := ⟨⟨zw102, zw104, zw2, zw17, zw105⟩, rfl, by decide, by decide, by decide +kernel⟩
theorem kv_Jx4a65c_129 : zCv "java/util/ArrayList" 129 "java/util/ArrayList" yJx4a65c_grow_d5877 cJx4a65c_grow_d5877 1 (some ((.array (.object "java/lang/Object")))) 0 := ⟨⟨zw98, zw100, zw1, zw17, zw101⟩, rfl, by decide, by decide, by decide +kernel⟩
theorem fl_Jx4a65c_63 : zFl "java/util/ArrayList" 63 0 0 RJx4a65c TJx4a65c 3 tyJx4a65c := ⟨rfl, zin_0, tyJx4a65c_ok, nmJx4a65c, by decide, "java/util/ArrayList", zw60, Or.inr zw61⟩
theorem kv_Jx4a65c_131 : zCv "java/util/ArrayList" 131 "java/util/ArrayList" yJx4a65c_add_72be8 cJx4a65c_add_72be8 4 none 3 := ⟨⟨zw94, zw96, zw0, zw17, zw97⟩, rfl, by decide, by decide, by decide +kernel⟩
theorem fl_X1_9 : zFl "SchemaSubjects$Row" 9 2 0 RX1 TX1 2 tyX1 := ⟨rfl, zin_2, tyX1_ok, nmX1, by decide, "SchemaSubjects$Row", zw161, Or.inl rfl⟩
theorem kn_X2_9 : zNc "SchemaSubjects$Schema" 9 0 RJx4a65c TJx4a65c 3 tyJx4a65c := ⟨rfl, zin_0, tyJx4a65c_ok, zw153, zw44, zw17⟩
theorem ki_X2_11 : zCi "SchemaSubjects$Schema" 11 yJx4a65c_init_da8c8 cJx4a65c_init_da8c8 1 0 := ⟨⟨zw154, zw46, zw17, zw47, rfl⟩, by decide, by decide, by decide +kernel⟩
theorem fl_X2_12 : zFl "SchemaSubjects$Schema" 12 3 0 RX2 TX2 3 tyX2 := ⟨rfl, zin_3, tyX2_ok, nmX2, by decide, "SchemaSubjects$Schema", zw169, Or.inl rfl⟩
theorem kn_X2_18 : zNc "SchemaSubjects$Schema" 18 2 RX1 TX1 2 tyX1 := ⟨rfl, zin_2, tyX1_ok, zw155, zw156, zw24⟩
theorem ki_X2_20 : zCi "SchemaSubjects$Schema" 20 yX1_init cX1_init 1 0 := ⟨⟨zw157, zw158, zw24, zw159, rfl⟩, by decide, by decide, by decide +kernel⟩
theorem fl_X2_21 : zFl "SchemaSubjects$Schema" 21 3 1 RX2 TX2 3 tyX2 := ⟨rfl, zin_3, tyX2_ok, nmX2, by decide, "SchemaSubjects$Schema", zw171, Or.inl rfl⟩
theorem fl_X2_25 : zFl "SchemaSubjects$Schema" 25 3 2 RX2 TX2 3 tyX2 := ⟨rfl, zin_3, tyX2_ok, nmX2, by decide, "SchemaSubjects$Schema", zw173, Or.inl rfl⟩
theorem fl_X5_10 : zFl "SchemaSubjects" 10 6 0 RX5 TX5 6 tyX5 := ⟨rfl, zin_6, tyX5_ok, nmX5, by decide, "SchemaSubjects", zw184, Or.inl rfl⟩
theorem kn_X5_7 : zNc "SchemaSubjects" 7 0 RJx4a65c TJx4a65c 3 tyJx4a65c := ⟨rfl, zin_0, tyJx4a65c_ok, zw43, zw44, zw17⟩
theorem ki_X5_9 : zCi "SchemaSubjects" 9 yJx4a65c_init_da8c8 cJx4a65c_init_da8c8 1 0 := ⟨⟨zw45, zw46, zw17, zw47, rfl⟩, by decide, by decide, by decide +kernel⟩
theorem fl_X5_23 : zFl "SchemaSubjects" 23 6 1 RX5 TX5 6 tyX5 := ⟨rfl, zin_6, tyX5_ok, nmX5, by decide, "SchemaSubjects", zw185, Or.inl rfl⟩
theorem kn_X5_26 : zNc "SchemaSubjects" 26 3 RX2 TX2 3 tyX2 := ⟨rfl, zin_3, tyX2_ok, zw147, zw148, zw23⟩
theorem ki_X5_28 : zCi "SchemaSubjects" 28 yX2_init cX2_init 1 0 := ⟨⟨zw149, zw150, zw23, zw151, rfl⟩, by decide, by decide, by decide +kernel⟩
theorem fl_X5_29 : zFl "SchemaSubjects" 29 6 2 RX5 TX5 6 tyX5 := ⟨rfl, zin_6, tyX5_ok, nmX5, by decide, "SchemaSubjects", zw186, Or.inl rfl⟩
theorem kn_X5_33 : zNc "SchemaSubjects" 33 2 RX1 TX1 2 tyX1 := ⟨rfl, zin_2, tyX1_ok, zw182, zw156, zw24⟩
theorem ki_X5_35 : zCi "SchemaSubjects" 35 yX1_init cX1_init 1 0 := ⟨⟨zw183, zw158, zw24, zw159, rfl⟩, by decide, by decide, by decide +kernel⟩
theorem fl_X5_36 : zFl "SchemaSubjects" 36 6 3 RX5 TX5 6 tyX5 := ⟨rfl, zin_6, tyX5_ok, nmX5, by decide, "SchemaSubjects", zw187, Or.inl rfl⟩
theorem fl_X5_40 : zFl "SchemaSubjects" 40 6 4 RX5 TX5 6 tyX5 := ⟨rfl, zin_6, tyX5_ok, nmX5, by decide, "SchemaSubjects", zw188, Or.inl rfl⟩
theorem fl_X5_43 : zFl "SchemaSubjects" 43 6 5 RX5 TX5 6 tyX5 := ⟨rfl, zin_6, tyX5_ok, nmX5, by decide, "SchemaSubjects", zw189, Or.inl rfl⟩
theorem kn_X5_16 : zNc "SchemaSubjects" 16 4 RX3 TX3 3 tyX3 := ⟨rfl, zin_4, tyX3_ok, zw69, zw70, zw18⟩
theorem ki_X5_18 : zCi "SchemaSubjects" 18 yX3_init cX3_init 1 0 := ⟨⟨zw71, zw72, zw18, zw73, rfl⟩, by decide, by decide, by decide +kernel⟩
theorem kv_X5_19 : zCv "SchemaSubjects" 19 "java/util/ArrayList" yJx4a65c_add_9ea2d cJx4a65c_add_9ea2d 2 (some .boolean) 1 := ⟨⟨zw90, zw91, zw92, zw17, zw93⟩, rfl, by decide, by decide, by decide +kernel⟩
theorem ks_J15_105 : zCs "java/util/Objects" 105 yJ3_checkIndex_8e157 cJ3_checkIndex_8e157 3 (some .int) 3 := ⟨⟨zw316, zw317, zw30, zw318⟩, by decide, by decide, by decide +kernel⟩
theorem ks_Jx4a65c_118 : zCs "java/util/ArrayList" 118 yJ15_checkIndex_7cf53 cJ15_checkIndex_7cf53 2 (some .int) 2 := ⟨⟨zw313, zw314, zw29, zw315⟩, by decide, by decide, by decide +kernel⟩
theorem kv_Jx4a65c_123 : zCv "java/util/ArrayList" 123 "java/util/ArrayList" yJx4a65c_elementData_915e3 cJx4a65c_elementData_915e3 2 (some ((.object "java/lang/Object"))) 1 := ⟨⟨zw319, zw320, zw321, zw17, zw322⟩, rfl, by decide, by decide, by decide +kernel⟩
theorem fl_X3_28 : zFl "SchemaSubjects$Subject" 28 5 1 RX4 TX4 2 tyX4 := ⟨rfl, zin_5, tyX4_ok, nmX4, by decide, "SchemaSubjects$Version", zw546, Or.inl rfl⟩
theorem kv_X3_18 : zCv "SchemaSubjects$Subject" 18 "java/util/ArrayList" yJx4a65c_size_8abf5 cJx4a65c_size_8abf5 1 (some .int) 0 := ⟨⟨zw327, zw306, zw307, zw17, zw308⟩, rfl, by decide, by decide, by decide +kernel⟩
theorem kv_X3_22 : zCv "SchemaSubjects$Subject" 22 "java/util/ArrayList" yJx4a65c_get_915e3 cJx4a65c_get_915e3 2 (some ((.object "java/lang/Object"))) 1 := ⟨⟨zw328, zw310, zw311, zw17, zw312⟩, rfl, by decide, by decide, by decide +kernel⟩
theorem fl_X5_181 : zFl "SchemaSubjects" 181 5 1 RX4 TX4 2 tyX4 := ⟨rfl, zin_5, tyX4_ok, nmX4, by decide, "SchemaSubjects$Version", zw547, Or.inl rfl⟩
theorem fl_X5_252 : zFl "SchemaSubjects" 252 5 0 RX4 TX4 2 tyX4 := ⟨rfl, zin_5, tyX4_ok, nmX4, by decide, "SchemaSubjects$Version", zw544, Or.inl rfl⟩
theorem kv_X5_84 : zCv "SchemaSubjects" 84 "java/util/ArrayList" yJx4a65c_size_8abf5 cJx4a65c_size_8abf5 1 (some .int) 0 := ⟨⟨zw305, zw306, zw307, zw17, zw308⟩, rfl, by decide, by decide, by decide +kernel⟩
theorem kv_X5_242 : zCv "SchemaSubjects" 242 "java/util/ArrayList" yJx4a65c_get_915e3 cJx4a65c_get_915e3 2 (some ((.object "java/lang/Object"))) 1 := ⟨⟨zw309, zw310, zw311, zw17, zw312⟩, rfl, by decide, by decide, by decide +kernel⟩
theorem kv_X5_246 : zCv "SchemaSubjects" 246 "SchemaSubjects$Subject" yX3_keptVersion cX3_keptVersion 3 (some ((.object "SchemaSubjects$Version"))) 1 := ⟨⟨zw323, zw324, zw325, zw18, zw326⟩, rfl, by decide, by decide, by decide +kernel⟩
theorem fl_X1_15 : zFl "SchemaSubjects$Row" 15 2 1 RX1 TX1 2 tyX1 := ⟨rfl, zin_2, tyX1_ok, nmX1, by decide, "SchemaSubjects$Row", zw162, Or.inl rfl⟩
theorem fl_X2_72 : zFl "SchemaSubjects$Schema" 72 1 0 RX0 TX0 9 tyX0 := ⟨rfl, zin_1, tyX0_ok, nmX0, by decide, "SchemaSubjects$Field", zw384, Or.inl rfl⟩
theorem kv_X2_66 : zCv "SchemaSubjects$Schema" 66 "java/util/ArrayList" yJx4a65c_size_8abf5 cJx4a65c_size_8abf5 1 (some .int) 0 := ⟨⟨zw354, zw306, zw307, zw17, zw308⟩, rfl, by decide, by decide, by decide +kernel⟩
theorem kv_X2_68 : zCv "SchemaSubjects$Schema" 68 "java/util/ArrayList" yJx4a65c_get_915e3 cJx4a65c_get_915e3 2 (some ((.object "java/lang/Object"))) 1 := ⟨⟨zw355, zw310, zw311, zw17, zw312⟩, rfl, by decide, by decide, by decide +kernel⟩
theorem fl_X0_9 : zFl "SchemaSubjects$Field" 9 1 0 RX0 TX0 9 tyX0 := ⟨rfl, zin_1, tyX0_ok, nmX0, by decide, "SchemaSubjects$Field", zw382, Or.inl rfl⟩
theorem fl_X0_15 : zFl "SchemaSubjects$Field" 15 1 1 RX0 TX0 9 tyX0 := ⟨rfl, zin_1, tyX0_ok, nmX0, by decide, "SchemaSubjects$Field", zw385, Or.inl rfl⟩
theorem fl_X0_18 : zFl "SchemaSubjects$Field" 18 1 2 RX0 TX0 9 tyX0 := ⟨rfl, zin_1, tyX0_ok, nmX0, by decide, "SchemaSubjects$Field", zw387, Or.inl rfl⟩
theorem fl_X0_21 : zFl "SchemaSubjects$Field" 21 1 3 RX0 TX0 9 tyX0 := ⟨rfl, zin_1, tyX0_ok, nmX0, by decide, "SchemaSubjects$Field", zw390, Or.inl rfl⟩
theorem fl_X0_24 : zFl "SchemaSubjects$Field" 24 1 4 RX0 TX0 9 tyX0 := ⟨rfl, zin_1, tyX0_ok, nmX0, by decide, "SchemaSubjects$Field", zw392, Or.inl rfl⟩
theorem fl_X0_27 : zFl "SchemaSubjects$Field" 27 1 5 RX0 TX0 9 tyX0 := ⟨rfl, zin_1, tyX0_ok, nmX0, by decide, "SchemaSubjects$Field", zw394, Or.inl rfl⟩
theorem kv_X1_19 : zCv "SchemaSubjects$Row" 19 "SchemaSubjects$Row" yX1_count cX1_count 1 (some .int) 0 := ⟨⟨zw436, zw347, zw348, zw24, zw349⟩, rfl, by decide, by decide, by decide +kernel⟩
theorem kv_X1_23 : zCv "SchemaSubjects$Row" 23 "SchemaSubjects$Row" yX1_at cX1_at 2 (some .int) 1 := ⟨⟨zw437, zw438, zw439, zw24, zw440⟩, rfl, by decide, by decide, by decide +kernel⟩
theorem kv_X1_27 : zCv "SchemaSubjects$Row" 27 "SchemaSubjects$Row" yX1_add cX1_add 2 none 1 := ⟨⟨zw441, zw429, zw430, zw24, zw431⟩, rfl, by decide, by decide, by decide +kernel⟩
theorem fl_X2_42 : zFl "SchemaSubjects$Schema" 42 1 5 RX0 TX0 9 tyX0 := ⟨rfl, zin_1, tyX0_ok, nmX0, by decide, "SchemaSubjects$Field", zw395, Or.inl rfl⟩
theorem fl_X2_46 : zFl "SchemaSubjects$Schema" 46 1 2 RX0 TX0 9 tyX0 := ⟨rfl, zin_1, tyX0_ok, nmX0, by decide, "SchemaSubjects$Field", zw388, Or.inl rfl⟩
theorem kv_X2_29 : zCv "SchemaSubjects$Schema" 29 "SchemaSubjects$Row" yX1_count cX1_count 1 (some .int) 0 := ⟨⟨zw426, zw347, zw348, zw24, zw349⟩, rfl, by decide, by decide, by decide +kernel⟩
theorem fl_X2_33 : zFl "SchemaSubjects$Schema" 33 1 6 RX0 TX0 9 tyX0 := ⟨rfl, zin_1, tyX0_ok, nmX0, by decide, "SchemaSubjects$Field", zw397, Or.inl rfl⟩
theorem kv_X2_38 : zCv "SchemaSubjects$Schema" 38 "java/util/ArrayList" yJx4a65c_add_9ea2d cJx4a65c_add_9ea2d 2 (some .boolean) 1 := ⟨⟨zw427, zw91, zw92, zw17, zw93⟩, rfl, by decide, by decide, by decide +kernel⟩
theorem kv_X2_49 : zCv "SchemaSubjects$Schema" 49 "SchemaSubjects$Row" yX1_add cX1_add 2 none 1 := ⟨⟨zw428, zw429, zw430, zw24, zw431⟩, rfl, by decide, by decide, by decide +kernel⟩
theorem kv_X2_52 : zCv "SchemaSubjects$Schema" 52 "SchemaSubjects$Row" yX1_addAll cX1_addAll 3 none 1 := ⟨⟨zw432, zw433, zw434, zw24, zw435⟩, rfl, by decide, by decide, by decide +kernel⟩
theorem fl_X5_81 : zFl "SchemaSubjects" 81 3 0 RX2 TX2 3 tyX2 := ⟨rfl, zin_3, tyX2_ok, nmX2, by decide, "SchemaSubjects$Schema", zw170, Or.inl rfl⟩
theorem fl_X5_74 : zFl "SchemaSubjects" 74 3 1 RX2 TX2 3 tyX2 := ⟨rfl, zin_3, tyX2_ok, nmX2, by decide, "SchemaSubjects$Schema", zw172, Or.inl rfl⟩
theorem kt_X5_53_55 : zTh "SchemaSubjects" 53 55 57 "no such name, type or alias" (zXn 1) := ⟨zw229, zw28, List.mem_of_getElem? (i := 270) (by decide +kernel), zta_X5_57, by decide +kernel, by decide +kernel⟩
theorem kt_X5_91_93 : zTh "SchemaSubjects" 91 93 95 "the draft cannot take this field" (zXn 3) := ⟨zw357, zw32, List.mem_of_getElem? (i := 366) (by decide +kernel), zta_X5_95, by decide +kernel, by decide +kernel⟩
theorem kn_X5_96 : zNc "SchemaSubjects" 96 1 RX0 TX0 9 tyX0 := ⟨rfl, zin_1, tyX0_ok, zw373, zw374, zw33⟩
theorem ks_X5_98 : zCs "SchemaSubjects" 98 yX5_sizeOf cX5_sizeOf 2 (some .int) 2 := ⟨⟨zw375, zw376, zw14, zw377⟩, by decide, by decide, by decide +kernel⟩
theorem ki_X5_102 : zCi "SchemaSubjects" 102 yX0_init cX0_init 7 6 := ⟨⟨zw378, zw379, zw33, zw380, rfl⟩, by decide, by decide, by decide +kernel⟩
theorem kv_X5_105 : zCv "SchemaSubjects" 105 "SchemaSubjects$Schema" yX2_append cX2_append 2 none 1 := ⟨⟨zw422, zw423, zw424, zw23, zw425⟩, rfl, by decide, by decide, by decide +kernel⟩
theorem kv_X5_87 : zCv "SchemaSubjects" 87 "SchemaSubjects$Schema" yX2_named cX2_named 3 (some ((.object "SchemaSubjects$Field"))) 1 := ⟨⟨zw350, zw351, zw352, zw23, zw353⟩, rfl, by decide, by decide, by decide +kernel⟩
theorem kv_X5_77 : zCv "SchemaSubjects" 77 "SchemaSubjects$Row" yX1_count cX1_count 1 (some .int) 0 := ⟨⟨zw346, zw347, zw348, zw24, zw349⟩, rfl, by decide, by decide, by decide +kernel⟩
theorem kt_X5_69_71 : zTh "SchemaSubjects" 69 71 73 "no version there to refer to" (zXn 2) := ⟨zw330, zw31, List.mem_of_getElem? (i := 339) (by decide +kernel), zta_X5_73, by decide +kernel, by decide +kernel⟩
theorem kv_X5_65 : zCv "SchemaSubjects" 65 "SchemaSubjects" yX5_referable cX5_referable 3 (some ((.object "SchemaSubjects$Schema"))) 1 := ⟨⟨zw301, zw303, zw4, zw14, zw304⟩, rfl, by decide, by decide, by decide +kernel⟩
theorem ks_X5_60 : zCs "SchemaSubjects" 60 yX5_isSize cX5_isSize 1 (some .boolean) 1 := ⟨⟨zw297, zw298, zw14, zw299⟩, by decide, by decide, by decide +kernel⟩
theorem kt_X5_53_63 : zTh "SchemaSubjects" 53 63 57 "no such size" (zXn 1) := ⟨zw229, zw28, List.mem_of_getElem? (i := 300) (by decide +kernel), zta_X5_57, by decide +kernel, by decide +kernel⟩
theorem ks_X5_46 : zCs "SchemaSubjects" 46 yX5_isName cX5_isName 1 (some .boolean) 1 := ⟨⟨zw223, zw224, zw14, zw225⟩, by decide, by decide, by decide +kernel⟩
theorem ks_X5_50 : zCs "SchemaSubjects" 50 yX5_isType cX5_isType 1 (some .boolean) 1 := ⟨⟨zw226, zw227, zw14, zw228⟩, by decide, by decide, by decide +kernel⟩
theorem kv_X2_62 : zCv "SchemaSubjects$Schema" 62 "java/util/ArrayList" yJx4a65c_isEmpty_aae02 cJx4a65c_isEmpty_aae02 1 (some .boolean) 0 := ⟨⟨zw454, zw455, zw456, zw17, zw457⟩, rfl, by decide, by decide, by decide +kernel⟩
theorem fl_X5_113 : zFl "SchemaSubjects" 113 1 1 RX0 TX0 9 tyX0 := ⟨rfl, zin_1, tyX0_ok, nmX0, by decide, "SchemaSubjects$Field", zw386, Or.inl rfl⟩
theorem fl_X5_119 : zFl "SchemaSubjects" 119 1 2 RX0 TX0 9 tyX0 := ⟨rfl, zin_1, tyX0_ok, nmX0, by decide, "SchemaSubjects$Field", zw389, Or.inl rfl⟩
theorem fl_X5_134 : zFl "SchemaSubjects" 134 1 0 RX0 TX0 9 tyX0 := ⟨rfl, zin_1, tyX0_ok, nmX0, by decide, "SchemaSubjects$Field", zw383, Or.inl rfl⟩
theorem kt_X5_91_117 : zTh "SchemaSubjects" 91 117 95 "no field that may have a default" (zXn 3) := ⟨zw357, zw32, List.mem_of_getElem? (i := 458) (by decide +kernel), zta_X5_95, by decide +kernel, by decide +kernel⟩
theorem kv_X5_109 : zCv "SchemaSubjects" 109 "SchemaSubjects$Schema" yX2_last cX2_last 1 (some ((.object "SchemaSubjects$Field"))) 0 := ⟨⟨zw450, zw451, zw452, zw23, zw453⟩, rfl, by decide, by decide, by decide +kernel⟩
theorem ks_X5_121 : zCs "SchemaSubjects" 121 yX5_isOfSize cX5_isOfSize 2 (some .boolean) 2 := ⟨⟨zw459, zw460, zw14, zw461⟩, by decide, by decide, by decide +kernel⟩
theorem fl_X5_127 : zFl "SchemaSubjects" 127 1 7 RX0 TX0 9 tyX0 := ⟨rfl, zin_1, tyX0_ok, nmX0, by decide, "SchemaSubjects$Field", zw399, Or.inl rfl⟩
theorem fl_X5_131 : zFl "SchemaSubjects" 131 1 8 RX0 TX0 9 tyX0 := ⟨rfl, zin_1, tyX0_ok, nmX0, by decide, "SchemaSubjects$Field", zw401, Or.inl rfl⟩
theorem kt_X5_53_125 : zTh "SchemaSubjects" 53 125 57 "no value of the field" (zXn 1) := ⟨zw229, zw28, List.mem_of_getElem? (i := 462) (by decide +kernel), zta_X5_57, by decide +kernel, by decide +kernel⟩
theorem kv_X2_56 : zCv "SchemaSubjects$Schema" 56 "java/util/ArrayList" yJx4a65c_clear_da8c8 cJx4a65c_clear_da8c8 4 none 0 := ⟨⟨zw522, zw523, zw524, zw17, zw525⟩, rfl, by decide, by decide, by decide +kernel⟩
theorem kv_X2_59 : zCv "SchemaSubjects$Schema" 59 "SchemaSubjects$Row" yX1_empty cX1_empty 1 none 0 := ⟨⟨zw526, zw527, zw528, zw24, zw529⟩, rfl, by decide, by decide, by decide +kernel⟩
theorem kv_X5_137 : zCv "SchemaSubjects" 137 "SchemaSubjects$Schema" yX2_empty cX2_empty 1 none 0 := ⟨⟨zw518, zw519, zw520, zw23, zw521⟩, rfl, by decide, by decide, by decide +kernel⟩
theorem kt_X5_53_240 : zTh "SchemaSubjects" 53 240 57 "no such subject" (zXn 1) := ⟨zw229, zw28, List.mem_of_getElem? (i := 471) (by decide +kernel), zta_X5_57, by decide +kernel, by decide +kernel⟩
theorem kv_X5_255 : zCv "SchemaSubjects" 255 "java/util/ArrayList" yJx4a65c_isEmpty_aae02 cJx4a65c_isEmpty_aae02 1 (some .boolean) 0 := ⟨⟨zw476, zw455, zw456, zw17, zw457⟩, rfl, by decide, by decide, by decide +kernel⟩
theorem kt_X5_91_259 : zTh "SchemaSubjects" 91 259 95 "the draft has no field" (zXn 3) := ⟨zw357, zw32, List.mem_of_getElem? (i := 477) (by decide +kernel), zta_X5_95, by decide +kernel, by decide +kernel⟩
theorem fl_X2_79 : zFl "SchemaSubjects$Schema" 79 1 3 RX0 TX0 9 tyX0 := ⟨rfl, zin_1, tyX0_ok, nmX0, by decide, "SchemaSubjects$Field", zw391, Or.inl rfl⟩
theorem kv_X2_75 : zCv "SchemaSubjects$Schema" 75 "SchemaSubjects$Schema" yX2_named cX2_named 3 (some ((.object "SchemaSubjects$Field"))) 1 := ⟨⟨zw496, zw351, zw352, zw23, zw353⟩, rfl, by decide, by decide, by decide +kernel⟩
theorem fl_X5_279 : zFl "SchemaSubjects" 279 1 5 RX0 TX0 9 tyX0 := ⟨rfl, zin_1, tyX0_ok, nmX0, by decide, "SchemaSubjects$Field", zw396, Or.inl rfl⟩
theorem kv_X5_272 : zCv "SchemaSubjects" 272 "SchemaSubjects$Schema" yX2_sourceOf cX2_sourceOf 3 (some ((.object "SchemaSubjects$Field"))) 1 := ⟨⟨zw492, zw493, zw494, zw23, zw495⟩, rfl, by decide, by decide, by decide +kernel⟩
theorem kv_X5_276 : zCv "SchemaSubjects" 276 "SchemaSubjects$Field" yX0_isReadFromType cX0_isReadFromType 2 (some .boolean) 1 := ⟨⟨zw497, zw498, zw499, zw33, zw500⟩, rfl, by decide, by decide, by decide +kernel⟩
theorem ks_X5_205 : zCs "SchemaSubjects" 205 yX5_canReadSchema cX5_canReadSchema 4 (some .boolean) 3 := ⟨⟨zw501, zw487, zw14, zw488⟩, by decide, by decide, by decide +kernel⟩
theorem ks_X5_268 : zCs "SchemaSubjects" 268 yX5_canReadField cX5_canReadField 4 (some .boolean) 3 := ⟨⟨zw489, zw490, zw14, zw491⟩, by decide, by decide, by decide +kernel⟩
theorem fl_X3_54 : zFl "SchemaSubjects$Subject" 54 4 1 RX3 TX3 3 tyX3 := ⟨rfl, zin_4, tyX3_ok, nmX3, by decide, "SchemaSubjects$Subject", zw79, Or.inl rfl⟩
theorem kn_X3_57 : zCsN "SchemaSubjects$Subject" 57 yX5_canReadSchema "SchemaSubjects" cX5_canReadSchema 4 (some .boolean) 3 := ⟨⟨List.mem_of_getElem? (i := 486) (by decide +kernel), zw487, zw14, zw488⟩, by decide, by decide, by decide +kernel⟩
theorem fl_X3_32 : zFl "SchemaSubjects$Subject" 32 5 0 RX4 TX4 2 tyX4 := ⟨rfl, zin_5, tyX4_ok, nmX4, by decide, "SchemaSubjects$Version", zw543, Or.inl rfl⟩
theorem fl_X3_50 : zFl "SchemaSubjects$Subject" 50 4 2 RX3 TX3 3 tyX3 := ⟨rfl, zin_4, tyX3_ok, nmX3, by decide, "SchemaSubjects$Subject", zw81, Or.inl rfl⟩
theorem kv_X3_46 : zCv "SchemaSubjects$Subject" 46 "SchemaSubjects$Subject" yX3_agrees cX3_agrees 3 (some .boolean) 2 := ⟨⟨zw482, zw484, zw7, zw18, zw485⟩, rfl, by decide, by decide, by decide +kernel⟩
theorem kv_X5_140 : zCv "SchemaSubjects" 140 "SchemaSubjects" yX5_demandedSubject cX5_demandedSubject 2 (some ((.object "SchemaSubjects$Subject"))) 1 := ⟨⟨zw467, zw469, zw5, zw14, zw470⟩, rfl, by decide, by decide, by decide +kernel⟩
theorem kv_X5_144 : zCv "SchemaSubjects" 144 "SchemaSubjects" yX5_demandDraft cX5_demandDraft 1 none 0 := ⟨⟨zw472, zw474, zw6, zw14, zw475⟩, rfl, by decide, by decide, by decide +kernel⟩
theorem kv_X5_147 : zCv "SchemaSubjects" 147 "SchemaSubjects$Subject" yX3_accepts cX3_accepts 4 (some .boolean) 1 := ⟨⟨zw478, zw479, zw480, zw18, zw481⟩, rfl, by decide, by decide, by decide +kernel⟩
theorem fl_X0_31 : zFl "SchemaSubjects$Field" 31 1 7 RX0 TX0 9 tyX0 := ⟨rfl, zin_1, tyX0_ok, nmX0, by decide, "SchemaSubjects$Field", zw400, Or.inl rfl⟩
theorem fl_X0_35 : zFl "SchemaSubjects$Field" 35 1 8 RX0 TX0 9 tyX0 := ⟨rfl, zin_1, tyX0_ok, nmX0, by decide, "SchemaSubjects$Field", zw402, Or.inl rfl⟩
theorem kv_X2_85 : zCv "SchemaSubjects$Schema" 85 "SchemaSubjects$Field" yX0_isLike cX0_isLike 2 (some .boolean) 1 := ⟨⟨zw514, zw515, zw516, zw33, zw517⟩, rfl, by decide, by decide, by decide +kernel⟩
theorem kv_X3_36 : zCv "SchemaSubjects$Subject" 36 "SchemaSubjects$Schema" yX2_isLike cX2_isLike 3 (some .boolean) 1 := ⟨⟨zw510, zw511, zw512, zw23, zw513⟩, rfl, by decide, by decide, by decide +kernel⟩
theorem fl_X5_198 : zFl "SchemaSubjects" 198 3 2 RX2 TX2 3 tyX2 := ⟨rfl, zin_3, tyX2_ok, nmX2, by decide, "SchemaSubjects$Schema", zw174, Or.inl rfl⟩
theorem kv_X5_265 : zCv "SchemaSubjects" 265 "SchemaSubjects$Schema" yX2_isLike cX2_isLike 3 (some .boolean) 1 := ⟨⟨zw537, zw511, zw512, zw23, zw513⟩, rfl, by decide, by decide, by decide +kernel⟩
theorem fl_X4_9 : zFl "SchemaSubjects$Version" 9 5 0 RX4 TX4 2 tyX4 := ⟨rfl, zin_5, tyX4_ok, nmX4, by decide, "SchemaSubjects$Version", zw542, Or.inl rfl⟩
theorem fl_X4_15 : zFl "SchemaSubjects$Version" 15 5 1 RX4 TX4 2 tyX4 := ⟨rfl, zin_5, tyX4_ok, nmX4, by decide, "SchemaSubjects$Version", zw545, Or.inl rfl⟩
theorem fl_X5_155 : zFl "SchemaSubjects" 155 4 0 RX3 TX3 3 tyX3 := ⟨rfl, zin_4, tyX3_ok, nmX3, by decide, "SchemaSubjects$Subject", zw78, Or.inl rfl⟩
theorem kt_X5_91_158 : zTh "SchemaSubjects" 91 158 95 "not accepted, or no room for a version" (zXn 3) := ⟨zw357, zw32, List.mem_of_getElem? (i := 530) (by decide +kernel), zta_X5_95, by decide +kernel, by decide +kernel⟩
theorem kv_X5_151 : zCv "SchemaSubjects" 151 "SchemaSubjects$Subject" yX3_lowestLike cX3_lowestLike 4 (some .int) 1 := ⟨⟨zw506, zw507, zw508, zw18, zw509⟩, rfl, by decide, by decide, by decide +kernel⟩
theorem kn_X5_160 : zNc "SchemaSubjects" 160 5 RX4 TX4 2 tyX4 := ⟨rfl, zin_5, tyX4_ok, zw531, zw532, zw34⟩
theorem kv_X5_162 : zCv "SchemaSubjects" 162 "SchemaSubjects" yX5_takeDraft cX5_takeDraft 2 (some ((.object "SchemaSubjects$Schema"))) 0 := ⟨⟨zw533, zw535, zw8, zw14, zw536⟩, rfl, by decide, by decide, by decide +kernel⟩
theorem ki_X5_166 : zCi "SchemaSubjects" 166 yX4_init cX4_init 2 1 := ⟨⟨zw538, zw539, zw34, zw540, rfl⟩, by decide, by decide, by decide +kernel⟩
theorem fl_X5_171 : zFl "SchemaSubjects" 171 4 1 RX3 TX3 3 tyX3 := ⟨rfl, zin_4, tyX3_ok, nmX3, by decide, "SchemaSubjects$Subject", zw80, Or.inl rfl⟩
theorem kt_X5_53_169 : zTh "SchemaSubjects" 53 169 57 "no such mode" (zXn 1) := ⟨zw229, zw28, List.mem_of_getElem? (i := 557) (by decide +kernel), zta_X5_57, by decide +kernel, by decide +kernel⟩
theorem fl_X5_174 : zFl "SchemaSubjects" 174 4 2 RX3 TX3 3 tyX3 := ⟨rfl, zin_4, tyX3_ok, nmX3, by decide, "SchemaSubjects$Subject", zw82, Or.inl rfl⟩
theorem kt_X5_69_250 : zTh "SchemaSubjects" 69 250 73 "no such version" (zXn 2) := ⟨zw330, zw31, List.mem_of_getElem? (i := 565) (by decide +kernel), zta_X5_73, by decide +kernel, by decide +kernel⟩
theorem fl_X2_82 : zFl "SchemaSubjects$Schema" 82 1 4 RX0 TX0 9 tyX0 := ⟨rfl, zin_1, tyX0_ok, nmX0, by decide, "SchemaSubjects$Field", zw393, Or.inl rfl⟩
theorem kv_X3_42 : zCv "SchemaSubjects$Subject" 42 "SchemaSubjects$Schema" yX2_refersTo cX2_refersTo 3 (some .boolean) 1 := ⟨⟨zw578, zw571, zw572, zw23, zw573⟩, rfl, by decide, by decide, by decide +kernel⟩
theorem kv_X5_264 : zCv "SchemaSubjects" 264 "SchemaSubjects$Subject" yX3_refersTo cX3_refersTo 4 (some .boolean) 1 := ⟨⟨zw574, zw575, zw576, zw18, zw577⟩, rfl, by decide, by decide, by decide +kernel⟩
theorem kv_X5_261 : zCv "SchemaSubjects" 261 "SchemaSubjects$Schema" yX2_refersTo cX2_refersTo 3 (some .boolean) 1 := ⟨⟨zw570, zw571, zw572, zw23, zw573⟩, rfl, by decide, by decide, by decide +kernel⟩
theorem kv_X5_191 : zCv "SchemaSubjects" 191 "SchemaSubjects$Subject" yX3_countThere cX3_countThere 3 (some .int) 0 := ⟨⟨zw581, zw582, zw583, zw18, zw584⟩, rfl, by decide, by decide, by decide +kernel⟩
theorem kt_X5_91_187 : zTh "SchemaSubjects" 91 187 95 "not deleted softly yet, or referred to" (zXn 3) := ⟨zw357, zw32, List.mem_of_getElem? (i := 579) (by decide +kernel), zta_X5_95, by decide +kernel, by decide +kernel⟩
theorem ks_X5_177 : zCs "SchemaSubjects" 177 yX5_demandedVersion cX5_demandedVersion 3 (some ((.object "SchemaSubjects$Version"))) 2 := ⟨⟨zw562, zw563, zw14, zw564⟩, by decide, by decide, by decide +kernel⟩
theorem kt_X5_91_189 : zTh "SchemaSubjects" 91 189 95 "deleted softly before" (zXn 3) := ⟨zw357, zw32, List.mem_of_getElem? (i := 580) (by decide +kernel), zta_X5_95, by decide +kernel, by decide +kernel⟩
theorem kv_X5_184 : zCv "SchemaSubjects" 184 "SchemaSubjects" yX5_isReferredTo cX5_isReferredTo 3 (some .boolean) 1 := ⟨⟨zw566, zw568, zw9, zw14, zw569⟩, rfl, by decide, by decide, by decide +kernel⟩
theorem kv_X5_194 : zCv "SchemaSubjects" 194 "SchemaSubjects" yX5_demandedSchema cX5_demandedSchema 3 (some ((.object "SchemaSubjects$Schema"))) 2 := ⟨⟨zw589, zw591, zw10, zw14, zw592⟩, rfl, by decide, by decide, by decide +kernel⟩
theorem kv_X5_201 : zCv "SchemaSubjects" 201 "SchemaSubjects" yX5_demandSubjects cX5_demandSubjects 3 none 2 := ⟨⟨zw633, zw635, zw12, zw14, zw636⟩, rfl, by decide, by decide, by decide +kernel⟩
theorem kv_X5_236 : zCv "SchemaSubjects" 236 "SchemaSubjects$Row" yX1_at cX1_at 2 (some .int) 1 := ⟨⟨zw611, zw438, zw439, zw24, zw440⟩, rfl, by decide, by decide, by decide +kernel⟩
theorem kv_X5_226 : zCv "SchemaSubjects" 226 "SchemaSubjects$Row" yX1_add cX1_add 2 none 1 := ⟨⟨zw602, zw429, zw430, zw24, zw431⟩, rfl, by decide, by decide, by decide +kernel⟩
theorem kv_X5_219 : zCv "SchemaSubjects" 219 "SchemaSubjects$Row" yX1_empty cX1_empty 1 none 0 := ⟨⟨zw625, zw527, zw528, zw24, zw529⟩, rfl, by decide, by decide, by decide +kernel⟩
theorem fl_X5_290 : zFl "SchemaSubjects" 290 1 6 RX0 TX0 9 tyX0 := ⟨rfl, zin_1, tyX0_ok, nmX0, by decide, "SchemaSubjects$Field", zw398, Or.inl rfl⟩
theorem ks_X5_286 : zCs "SchemaSubjects" 286 yX5_readDefault cX5_readDefault 2 (some .boolean) 2 := ⟨⟨zw654, zw655, zw14, zw656⟩, by decide, by decide, by decide +kernel⟩
theorem ks_X5_220 : zCs "SchemaSubjects" 220 yX5_readSchema cX5_readSchema 7 (some .boolean) 6 := ⟨⟨zw648, zw649, zw14, zw650⟩, by decide, by decide, by decide +kernel⟩
theorem ks_X5_282 : zCs "SchemaSubjects" 282 yX5_readField cX5_readField 9 (some .boolean) 6 := ⟨⟨zw651, zw652, zw14, zw653⟩, by decide, by decide, by decide +kernel⟩
theorem ks_X5_215 : zCs "SchemaSubjects" 215 yX5_putSmallRecord cX5_putSmallRecord 6 none 3 := ⟨⟨zw645, zw646, zw14, zw647⟩, by decide, by decide, by decide +kernel⟩
theorem ks_X5_209 : zCs "SchemaSubjects" 209 yX5_countSmallRecords cX5_countSmallRecords 3 (some .int) 1 := ⟨⟨zw641, zw642, zw14, zw643⟩, by decide, by decide, by decide +kernel⟩
theorem kt_X5_91_213 : zTh "SchemaSubjects" 91 213 95 "too many small records" (zXn 3) := ⟨zw357, zw32, List.mem_of_getElem? (i := 644) (by decide +kernel), zta_X5_95, by decide +kernel, by decide +kernel⟩
theorem kt_X5_91_224 : zTh "SchemaSubjects" 91 224 95 "the record is full" (zXn 3) := ⟨zw357, zw32, List.mem_of_getElem? (i := 601) (by decide +kernel), zta_X5_95, by decide +kernel, by decide +kernel⟩
theorem kv_X5_229 : zCv "SchemaSubjects" 229 "SchemaSubjects" yX5_isRecordOf cX5_isRecordOf 3 (some .boolean) 1 := ⟨⟨zw607, zw609, zw11, zw14, zw610⟩, rfl, by decide, by decide, by decide +kernel⟩
theorem kt_X5_91_232 : zTh "SchemaSubjects" 91 232 95 "no record of the writer, or one that cannot be read" (zXn 3) := ⟨zw357, zw32, List.mem_of_getElem? (i := 661) (by decide +kernel), zta_X5_95, by decide +kernel, by decide +kernel⟩
theorem kt_X5_69_234 : zTh "SchemaSubjects" 69 234 73 "no such place" (zXn 2) := ⟨zw330, zw31, List.mem_of_getElem? (i := 616) (by decide +kernel), zta_X5_73, by decide +kernel, by decide +kernel⟩
theorem kv_L_8 : zCv "SchemaSubjectsLaw" 8 "SchemaSubjects" yX5_field cX5_field 8 (some .int) 4 := ⟨⟨zw219, zw220, zw221, zw14, zw222⟩, rfl, by decide, by decide, by decide +kernel⟩
theorem kv_L_36 : zCv "SchemaSubjectsLaw" 36 "SchemaSubjects" yX5_delete cX5_delete 6 (some .int) 3 := ⟨⟨zw558, zw559, zw560, zw14, zw561⟩, rfl, by decide, by decide, by decide +kernel⟩
theorem kv_L_32 : zCv "SchemaSubjectsLaw" 32 "SchemaSubjects" yX5_setMode cX5_setMode 6 (some .int) 3 := ⟨⟨zw553, zw554, zw555, zw14, zw556⟩, rfl, by decide, by decide, by decide +kernel⟩
theorem kv_L_53 : zCv "SchemaSubjectsLaw" 53 "SchemaSubjects" yX5_valueAt cX5_valueAt 2 (some .int) 1 := ⟨⟨zw612, zw613, zw614, zw14, zw615⟩, rfl, by decide, by decide, by decide +kernel⟩
theorem kv_L_49 : zCv "SchemaSubjectsLaw" 49 "SchemaSubjects" yX5_isRecord cX5_isRecord 3 (some .boolean) 2 := ⟨⟨zw603, zw604, zw605, zw14, zw606⟩, rfl, by decide, by decide, by decide +kernel⟩
theorem kv_L_46 : zCv "SchemaSubjectsLaw" 46 "SchemaSubjects" yX5_value cX5_value 2 (some .int) 1 := ⟨⟨zw597, zw598, zw599, zw14, zw600⟩, rfl, by decide, by decide, by decide +kernel⟩
theorem kv_L_43 : zCv "SchemaSubjectsLaw" 43 "SchemaSubjects" yX5_length cX5_length 3 (some .int) 2 := ⟨⟨zw593, zw594, zw595, zw14, zw596⟩, rfl, by decide, by decide, by decide +kernel⟩
theorem kv_L_39 : zCv "SchemaSubjectsLaw" 39 "SchemaSubjects" yX5_number cX5_number 3 (some .int) 2 := ⟨⟨zw585, zw586, zw587, zw14, zw588⟩, rfl, by decide, by decide, by decide +kernel⟩
theorem kv_L_29 : zCv "SchemaSubjectsLaw" 29 "SchemaSubjects" yX5_register cX5_register 5 (some .int) 1 := ⟨⟨zw502, zw503, zw504, zw14, zw505⟩, rfl, by decide, by decide, by decide +kernel⟩
theorem kv_L_25 : zCv "SchemaSubjectsLaw" 25 "SchemaSubjects" yX5_isAccepted cX5_isAccepted 3 (some .boolean) 1 := ⟨⟨zw463, zw464, zw465, zw14, zw466⟩, rfl, by decide, by decide, by decide +kernel⟩
theorem kv_L_21 : zCv "SchemaSubjectsLaw" 21 "SchemaSubjects" yX5_byDefault cX5_byDefault 3 (some .int) 1 := ⟨⟨zw446, zw447, zw448, zw14, zw449⟩, rfl, by decide, by decide, by decide +kernel⟩
theorem kv_L_63 : zCv "SchemaSubjectsLaw" 63 "SchemaSubjects" yX5_read cX5_read 8 (some .int) 4 := ⟨⟨zw657, zw658, zw659, zw14, zw660⟩, rfl, by decide, by decide, by decide +kernel⟩
theorem kv_L_60 : zCv "SchemaSubjectsLaw" 60 "SchemaSubjects" yX5_readsAll cX5_readsAll 9 (some .boolean) 4 := ⟨⟨zw637, zw638, zw639, zw14, zw640⟩, rfl, by decide, by decide, by decide +kernel⟩
theorem kv_L_56 : zCv "SchemaSubjectsLaw" 56 "SchemaSubjects" yX5_canRead cX5_canRead 7 (some .boolean) 4 := ⟨⟨zw629, zw630, zw631, zw14, zw632⟩, rfl, by decide, by decide, by decide +kernel⟩
theorem kw_L_74 : zCsW "SchemaSubjectsLaw" 74 yL_does cL_does 5 (some .int) [(0, 168, 169, 14), (0, 168, 174, 17), (0, 168, 179, 19)] 4 := ⟨⟨zw443, zw444, zw13, zw445⟩, by decide, by decide, by decide +kernel⟩
theorem ks_L_66 : zCs "SchemaSubjectsLaw" 66 yL_low cL_low 2 (some .int) 2 := ⟨⟨zw206, zw207, zw13, zw208⟩, by decide, by decide, by decide +kernel⟩
theorem kw_L_71 : zCsW "SchemaSubjectsLaw" 71 yL_field cL_field 6 (some .int) [(0, 9, 10, 14), (0, 9, 15, 17), (0, 9, 20, 19)] 5 := ⟨⟨zw213, zw214, zw13, zw215⟩, by decide, by decide, by decide +kernel⟩
theorem kw_L_85 : zCsW "SchemaSubjectsLaw" 85 yL_reads cL_reads 5 (some .int) [(0, 91, 92, 14), (0, 91, 97, 17), (0, 91, 102, 19)] 4 := ⟨⟨zw626, zw627, zw13, zw628⟩, by decide, by decide, by decide +kernel⟩
theorem kv_L_82 : zCv "SchemaSubjectsLaw" 82 "SchemaSubjects" yX5_clear cX5_clear 2 (some .int) 0 := ⟨⟨zw621, zw622, zw623, zw14, zw624⟩, rfl, by decide, by decide, by decide +kernel⟩
theorem kv_L_78 : zCv "SchemaSubjectsLaw" 78 "SchemaSubjects" yX5_discard cX5_discard 2 (some .int) 0 := ⟨⟨zw617, zw618, zw619, zw14, zw620⟩, rfl, by decide, by decide, by decide +kernel⟩
theorem kv_L_88 : zCv "SchemaSubjectsLaw" 88 "SchemaSubjects" yX5_versions cX5_versions 2 (some .int) 1 := ⟨⟨zw665, zw666, zw667, zw14, zw668⟩, rfl, by decide, by decide, by decide +kernel⟩
theorem ks_L_108 : zCs "SchemaSubjectsLaw" 108 yL_isReadSo cL_isReadSo 11 (some .boolean) 5 := ⟨⟨zw672, zw673, zw13, zw674⟩, by decide, by decide, by decide +kernel⟩
theorem ks_L_104 : zCs "SchemaSubjectsLaw" 104 yL_areVersionsSo cL_areVersionsSo 10 (some .boolean) 3 := ⟨⟨zw669, zw670, zw13, zw671⟩, by decide, by decide, by decide +kernel⟩
theorem ks_L_100 : zCs "SchemaSubjectsLaw" 100 yL_areAlike cL_areAlike 5 (some .boolean) 3 := ⟨⟨zw662, zw663, zw13, zw664⟩, by decide, by decide, by decide +kernel⟩
theorem ks_L_96 : zCs "SchemaSubjectsLaw" 96 yL_act cL_act 8 (some .int) 3 := ⟨⟨zw210, zw211, zw13, zw212⟩, by decide, by decide, by decide +kernel⟩
theorem ks_L_92 : zCs "SchemaSubjectsLaw" 92 yL_cell cL_cell 2 (some .int) 2 := ⟨⟨zw203, zw204, zw13, zw205⟩, by decide, by decide, by decide +kernel⟩
theorem kn_L_9 : zNc "SchemaSubjectsLaw" 9 6 RX5 TX5 6 tyX5 := ⟨rfl, zin_6, tyX5_ok, zw35, zw36, zw14⟩
theorem ki_L_91 : zCi "SchemaSubjectsLaw" 91 yX5_init cX5_init 2 0 := ⟨⟨zw37, zw38, zw14, zw39, rfl⟩, by decide, by decide, by decide +kernel⟩
