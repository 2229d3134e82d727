/-! ===== small rows for the generated walks; certificates out of the tables ===== -/
theorem z_catR {r : Option Nat} : (va_rf r).category = 1 := by cases r <;> rfl
theorem z_fz {x : Int32} (h : x = 0 ∨ x = 1) : fits .boolean (.int x) = true := by rcases h with rfl | rfl <;> rfl
theorem z_no {n : String} (r : Option Nat) : narrow (.object n) (va_rf r) = va_rf r := by cases r <;> rfl
theorem z_na {t : FieldType} (r : Option Nat) : narrow (.array t) (va_rf r) = va_rf r := by cases r <;> rfl
theorem z_fo {n : String} (r : Option Nat) : fits (.object n) (va_rf r) = true := by cases r <;> rfl
theorem z_fa {t : FieldType} (r : Option Nat) : fits (.array t) (va_rf r) = true := by cases r <;> rfl
theorem z_enter {m : MethodId} {n : Nat} {vs : List Value} {l : List (Nat × Value)} (h1 : (lg_sl vs).length ≤ n) (h2 : lv_args 0 vs = l) : ∃ ls, entryFrame m vs.toArray n = F0 m 0 ls [] ∧ lv_has ls n l :=
  ⟨_, lg_entry_eq m vs n, by rw [← h2]; exact lv_entry vs h1⟩
theorem z_in {ws : List Cond} (ps : List Nat) (hp : ws = ps.filterMap (fun i => lw_tbl[i]?)) (h : ws.all zgood = true) : ∀ w ∈ ws, w ∈ zG := by
  intro w hw
  have h1 := List.all_eq_true.mp h w hw
  rw [hp] at hw
  obtain ⟨i, -, hi⟩ := List.mem_filterMap.mp hw
  exact z_g i hi h1

theorem zin_0 : ∀ w ∈ u_ws RJx4a65c TJx4a65c 3, w ∈ zG := z_in [95, 91, 93] (by decide +kernel) (by decide +kernel)
theorem vc_0 : vwCl[0]? = some (RJx4a65c, TJx4a65c, 3) := rfl
theorem zd_0 : ∀ j, j < 3 → defaultValue (tyJx4a65c j) = vp_V [.int 0, .null, .int 0] j := by decide +kernel
theorem zin_1 : ∀ w ∈ u_ws RX0 TX0 9, w ∈ zG := z_in [444, 446, 448, 450, 452, 454, 456, 458, 460] (by decide +kernel) (by decide +kernel)
theorem vc_1 : vwCl[1]? = some (RX0, TX0, 9) := rfl
theorem zd_1 : ∀ j, j < 9 → defaultValue (tyX0 j) = vp_V [.int 0, .int 0, .int 0, .int 0, .int 0, .null, .int 0, .int 0, .int 0] j := by decide +kernel
theorem zin_2 : ∀ w ∈ u_ws RX1 TX1 2, w ∈ zG := z_in [193, 195] (by decide +kernel) (by decide +kernel)
theorem vc_2 : vwCl[2]? = some (RX1, TX1, 2) := rfl
theorem zd_2 : ∀ j, j < 2 → defaultValue (tyX1 j) = vp_V [.null, .int 0] j := by decide +kernel
theorem zin_3 : ∀ w ∈ u_ws RX2 TX2 3, w ∈ zG := z_in [205, 207, 209] (by decide +kernel) (by decide +kernel)
theorem vc_3 : vwCl[3]? = some (RX2, TX2, 3) := rfl
theorem zd_3 : ∀ j, j < 3 → defaultValue (tyX2 j) = vp_V [.null, .null, .int 0] j := by decide +kernel
theorem zin_4 : ∀ w ∈ u_ws RX3 TX3 3, w ∈ zG := z_in [112, 114, 116] (by decide +kernel) (by decide +kernel)
theorem vc_4 : vwCl[4]? = some (RX3, TX3, 3) := rfl
theorem zd_4 : ∀ j, j < 3 → defaultValue (tyX3 j) = vp_V [.null, .int 0, .int 0] j := by decide +kernel
theorem zin_5 : ∀ w ∈ u_ws RX4 TX4 2, w ∈ zG := z_in [582, 584] (by decide +kernel) (by decide +kernel)
theorem vc_5 : vwCl[5]? = some (RX4, TX4, 2) := rfl
theorem zd_5 : ∀ j, j < 2 → defaultValue (tyX4 j) = vp_V [.null, .int 0] j := by decide +kernel
theorem zin_6 : ∀ w ∈ u_ws RX5 TX5 6, w ∈ zG := z_in [220, 222, 224, 226, 228, 230] (by decide +kernel) (by decide +kernel)
theorem vc_6 : vwCl[6]? = some (RX5, TX5, 6) := rfl
theorem zd_6 : ∀ j, j < 6 → defaultValue (tyX5 j) = vp_V [.null, .null, .null, .null, .null, .null] j := by decide +kernel
theorem zin_7 : ∀ w ∈ u_ws RX6 TX6 23, w ∈ zG := z_in [757, 759, 761, 763, 765, 767, 769, 771, 773, 775, 777, 779, 781, 783, 785, 787, 789, 791, 793, 795, 797, 799, 801] (by decide +kernel) (by decide +kernel)
theorem vc_7 : vwCl[7]? = some (RX6, TX6, 23) := rfl
theorem zd_7 : ∀ j, j < 23 → defaultValue (tyX6 j) = vp_V [.int 0, .null, .null, .null, .null, .null, .null, .null, .null, .int 0, .null, .null, .null, .null, .null, .null, .int 0, .null, .null, .null, .null, .null, .null] j := by decide +kernel
theorem zw13 : Cond.selects "SchemaSubjectsModel" ({ cls := "SchemaSubjectsModel", name := "errorOfField", desc := "(IIII)I" }) ({ cls := "SchemaSubjectsModel", name := "errorOfField", desc := "(IIII)I" }) ∈ zG := z_g 13 (by decide +kernel) (by decide +kernel)
theorem zw14 : Cond.selects "SchemaSubjectsModel" ({ cls := "SchemaSubjectsModel", name := "isRange", desc := "(IIII)Z" }) ({ cls := "SchemaSubjectsModel", name := "isRange", desc := "(IIII)Z" }) ∈ zG := z_g 14 (by decide +kernel) (by decide +kernel)
theorem zw15 : Cond.selects "SchemaSubjectsModel" ({ cls := "SchemaSubjectsModel", name := "isThereAt", desc := "(II)Z" }) ({ cls := "SchemaSubjectsModel", name := "isThereAt", desc := "(II)Z" }) ∈ zG := z_g 15 (by decide +kernel) (by decide +kernel)
theorem zw16 : Cond.selects "SchemaSubjectsModel" ({ cls := "SchemaSubjectsModel", name := "isVersion", desc := "(II)Z" }) ({ cls := "SchemaSubjectsModel", name := "isVersion", desc := "(II)Z" }) ∈ zG := z_g 16 (by decide +kernel) (by decide +kernel)
theorem zw17 : Cond.selects "SchemaSubjectsModel" ({ cls := "SchemaSubjectsModel", name := "schemaOf", desc := "(I)I" }) ({ cls := "SchemaSubjectsModel", name := "schemaOf", desc := "(I)I" }) ∈ zG := z_g 17 (by decide +kernel) (by decide +kernel)
theorem zw18 : Cond.selects "SchemaSubjectsModel" ({ cls := "SchemaSubjectsModel", name := "named", desc := "(II)I" }) ({ cls := "SchemaSubjectsModel", name := "named", desc := "(II)I" }) ∈ zG := z_g 18 (by decide +kernel) (by decide +kernel)
theorem zw19 : Cond.selects "SchemaSubjectsModel" ({ cls := "SchemaSubjectsModel", name := "holds", desc := "(I)Z" }) ({ cls := "SchemaSubjectsModel", name := "holds", desc := "(I)Z" }) ∈ zG := z_g 19 (by decide +kernel) (by decide +kernel)
theorem zw20 : Cond.selects "SchemaSubjectsModel" ({ cls := "SchemaSubjectsModel", name := "isValue", desc := "(II)Z" }) ({ cls := "SchemaSubjectsModel", name := "isValue", desc := "(II)Z" }) ∈ zG := z_g 20 (by decide +kernel) (by decide +kernel)
theorem zw52 : (Jvm.Cond.initialized "SchemaSubjects$Row") ∈ zG := z_g 52 (by decide +kernel) (by decide +kernel)
theorem zw53 : (Jvm.Cond.initialized "SchemaSubjectsModel") ∈ zG := z_g 53 (by decide +kernel) (by decide +kernel)
theorem zw191 : (Jvm.Cond.fieldLink "SchemaSubjects$Row" (9 : Nat) "SchemaSubjects$Row" "numbers" "[I") ∈ zG := z_g 191 (by decide +kernel) (by decide +kernel)
theorem zw192 : (Jvm.Cond.fieldLink "SchemaSubjects$Row" (15 : Nat) "SchemaSubjects$Row" "used" "I") ∈ zG := z_g 192 (by decide +kernel) (by decide +kernel)
theorem zw258 : (Jvm.Cond.instanceMethod ({ cls := "SchemaSubjects$Row", name := "count", desc := "()I" } : Jvm.MethodName)) ∈ zG := z_g 258 (by decide +kernel) (by decide +kernel)
theorem zw259 : (Jvm.Cond.selects "SchemaSubjects$Row" ({ cls := "SchemaSubjects$Row", name := "count", desc := "()I" } : Jvm.MethodName) ({ cls := "SchemaSubjects$Row", name := "count", desc := "()I" } : Jvm.MethodName)) ∈ zG := z_g 259 (by decide +kernel) (by decide +kernel)
theorem zw260 : (Jvm.Cond.code ({ cls := "SchemaSubjects$Row", name := "count", desc := "()I" } : Jvm.MethodName) prog_3_method_2_code (1 : Nat) (Option.some Jvm.ClassFile.FieldType.int)) ∈ zG := z_g 260 (by decide +kernel) (by decide +kernel)
theorem zw470 : (Jvm.Cond.instanceMethod ({ cls := "SchemaSubjects$Row", name := "add", desc := "(I)V" } : Jvm.MethodName)) ∈ zG := z_g 470 (by decide +kernel) (by decide +kernel)
theorem zw471 : (Jvm.Cond.selects "SchemaSubjects$Row" ({ cls := "SchemaSubjects$Row", name := "add", desc := "(I)V" } : Jvm.MethodName) ({ cls := "SchemaSubjects$Row", name := "add", desc := "(I)V" } : Jvm.MethodName)) ∈ zG := z_g 471 (by decide +kernel) (by decide +kernel)
theorem zw472 : (Jvm.Cond.code ({ cls := "SchemaSubjects$Row", name := "add", desc := "(I)V" } : Jvm.MethodName) prog_3_method_4_code (2 : Nat) (Option.none : Option Jvm.ClassFile.FieldType)) ∈ zG := z_g 472 (by decide +kernel) (by decide +kernel)
theorem zw477 : (Jvm.Cond.methodLink "SchemaSubjects$Row" (19 : Nat) ({ cls := "SchemaSubjects$Row", name := "count", desc := "()I" } : Jvm.MethodName)) ∈ zG := z_g 477 (by decide +kernel) (by decide +kernel)
theorem zw478 : (Jvm.Cond.methodLink "SchemaSubjects$Row" (23 : Nat) ({ cls := "SchemaSubjects$Row", name := "at", desc := "(I)I" } : Jvm.MethodName)) ∈ zG := z_g 478 (by decide +kernel) (by decide +kernel)
theorem zw479 : (Jvm.Cond.instanceMethod ({ cls := "SchemaSubjects$Row", name := "at", desc := "(I)I" } : Jvm.MethodName)) ∈ zG := z_g 479 (by decide +kernel) (by decide +kernel)
theorem zw480 : (Jvm.Cond.selects "SchemaSubjects$Row" ({ cls := "SchemaSubjects$Row", name := "at", desc := "(I)I" } : Jvm.MethodName) ({ cls := "SchemaSubjects$Row", name := "at", desc := "(I)I" } : Jvm.MethodName)) ∈ zG := z_g 480 (by decide +kernel) (by decide +kernel)
theorem zw481 : (Jvm.Cond.code ({ cls := "SchemaSubjects$Row", name := "at", desc := "(I)I" } : Jvm.MethodName) prog_3_method_3_code (2 : Nat) (Option.some Jvm.ClassFile.FieldType.int)) ∈ zG := z_g 481 (by decide +kernel) (by decide +kernel)
theorem zw482 : (Jvm.Cond.methodLink "SchemaSubjects$Row" (27 : Nat) ({ cls := "SchemaSubjects$Row", name := "add", desc := "(I)V" } : Jvm.MethodName)) ∈ zG := z_g 482 (by decide +kernel) (by decide +kernel)
theorem zw734 : (Jvm.Cond.fieldLink "SchemaSubjectsModel" (71 : Nat) "SchemaSubjectsModel" "thrown" "I") ∈ zG := z_g 734 (by decide +kernel) (by decide +kernel)
theorem zw735 : (Jvm.Cond.fieldLink "SchemaSubjectsModel" (7 : Nat) "SchemaSubjectsModel" "names" "[I") ∈ zG := z_g 735 (by decide +kernel) (by decide +kernel)
theorem zw736 : (Jvm.Cond.fieldLink "SchemaSubjectsModel" (13 : Nat) "SchemaSubjectsModel" "types" "[I") ∈ zG := z_g 736 (by decide +kernel) (by decide +kernel)
theorem zw737 : (Jvm.Cond.fieldLink "SchemaSubjectsModel" (16 : Nat) "SchemaSubjectsModel" "details" "[I") ∈ zG := z_g 737 (by decide +kernel) (by decide +kernel)
theorem zw738 : (Jvm.Cond.fieldLink "SchemaSubjectsModel" (19 : Nat) "SchemaSubjectsModel" "aliases" "[I") ∈ zG := z_g 738 (by decide +kernel) (by decide +kernel)
theorem zw739 : (Jvm.Cond.fieldLink "SchemaSubjectsModel" (22 : Nat) "SchemaSubjectsModel" "haveDefaults" "[Z") ∈ zG := z_g 739 (by decide +kernel) (by decide +kernel)
theorem zw740 : (Jvm.Cond.fieldLink "SchemaSubjectsModel" (26 : Nat) "SchemaSubjectsModel" "defaults" "[I") ∈ zG := z_g 740 (by decide +kernel) (by decide +kernel)
theorem zw741 : (Jvm.Cond.fieldLink "SchemaSubjectsModel" (29 : Nat) "SchemaSubjectsModel" "sizes" "[I") ∈ zG := z_g 741 (by decide +kernel) (by decide +kernel)
theorem zw742 : (Jvm.Cond.fieldLink "SchemaSubjectsModel" (32 : Nat) "SchemaSubjectsModel" "lengths" "[I") ∈ zG := z_g 742 (by decide +kernel) (by decide +kernel)
theorem zw745 : (Jvm.Cond.fieldLink "SchemaSubjectsModel" (38 : Nat) "SchemaSubjectsModel" "numbers" "[I") ∈ zG := z_g 745 (by decide +kernel) (by decide +kernel)
theorem zw746 : (Jvm.Cond.fieldLink "SchemaSubjectsModel" (41 : Nat) "SchemaSubjectsModel" "states" "[I") ∈ zG := z_g 746 (by decide +kernel) (by decide +kernel)
theorem zw747 : (Jvm.Cond.fieldLink "SchemaSubjectsModel" (44 : Nat) "SchemaSubjectsModel" "counts" "[I") ∈ zG := z_g 747 (by decide +kernel) (by decide +kernel)
theorem zw813 : (Jvm.Cond.methodLink "SchemaSubjectsModel" (98 : Nat) ({ cls := "SchemaSubjectsModel", name := "errorOfField", desc := "(IIII)I" } : Jvm.MethodName)) ∈ zG := z_g 813 (by decide +kernel) (by decide +kernel)
theorem zw815 : (Jvm.Cond.instanceMethod ({ cls := "SchemaSubjectsModel", name := "errorOfField", desc := "(IIII)I" } : Jvm.MethodName)) ∈ zG := z_g 815 (by decide +kernel) (by decide +kernel)
theorem zw816 : (Jvm.Cond.code ({ cls := "SchemaSubjectsModel", name := "errorOfField", desc := "(IIII)I" } : Jvm.MethodName) prog_8_method_11_code (7 : Nat) (Option.some Jvm.ClassFile.FieldType.int)) ∈ zG := z_g 816 (by decide +kernel) (by decide +kernel)
theorem zw817 : (Jvm.Cond.methodLink "SchemaSubjectsModel" (83 : Nat) ({ cls := "SchemaSubjectsModel", name := "isRange", desc := "(IIII)Z" } : Jvm.MethodName)) ∈ zG := z_g 817 (by decide +kernel) (by decide +kernel)
theorem zw819 : (Jvm.Cond.instanceMethod ({ cls := "SchemaSubjectsModel", name := "isRange", desc := "(IIII)Z" } : Jvm.MethodName)) ∈ zG := z_g 819 (by decide +kernel) (by decide +kernel)
theorem zw820 : (Jvm.Cond.code ({ cls := "SchemaSubjectsModel", name := "isRange", desc := "(IIII)Z" } : Jvm.MethodName) prog_8_method_9_code (6 : Nat) (Option.some Jvm.ClassFile.FieldType.boolean)) ∈ zG := z_g 820 (by decide +kernel) (by decide +kernel)
theorem zw821 : (Jvm.Cond.methodLink "SchemaSubjectsModel" (75 : Nat) ({ cls := "SchemaSubjectsModel", name := "in", desc := "(III)Z" } : Jvm.MethodName)) ∈ zG := z_g 821 (by decide +kernel) (by decide +kernel)
theorem zw822 : (Jvm.Cond.static ({ cls := "SchemaSubjectsModel", name := "in", desc := "(III)Z" } : Jvm.MethodName)) ∈ zG := z_g 822 (by decide +kernel) (by decide +kernel)
theorem zw823 : (Jvm.Cond.code ({ cls := "SchemaSubjectsModel", name := "in", desc := "(III)Z" } : Jvm.MethodName) prog_8_method_4_code (3 : Nat) (Option.some Jvm.ClassFile.FieldType.boolean)) ∈ zG := z_g 823 (by decide +kernel) (by decide +kernel)
theorem zw824 : (Jvm.Cond.methodLink "SchemaSubjectsModel" (87 : Nat) ({ cls := "SchemaSubjectsModel", name := "isThereAt", desc := "(II)Z" } : Jvm.MethodName)) ∈ zG := z_g 824 (by decide +kernel) (by decide +kernel)
theorem zw826 : (Jvm.Cond.instanceMethod ({ cls := "SchemaSubjectsModel", name := "isThereAt", desc := "(II)Z" } : Jvm.MethodName)) ∈ zG := z_g 826 (by decide +kernel) (by decide +kernel)
theorem zw827 : (Jvm.Cond.code ({ cls := "SchemaSubjectsModel", name := "isThereAt", desc := "(II)Z" } : Jvm.MethodName) prog_8_method_7_code (3 : Nat) (Option.some Jvm.ClassFile.FieldType.boolean)) ∈ zG := z_g 827 (by decide +kernel) (by decide +kernel)
theorem zw828 : (Jvm.Cond.methodLink "SchemaSubjectsModel" (79 : Nat) ({ cls := "SchemaSubjectsModel", name := "isVersion", desc := "(II)Z" } : Jvm.MethodName)) ∈ zG := z_g 828 (by decide +kernel) (by decide +kernel)
theorem zw830 : (Jvm.Cond.instanceMethod ({ cls := "SchemaSubjectsModel", name := "isVersion", desc := "(II)Z" } : Jvm.MethodName)) ∈ zG := z_g 830 (by decide +kernel) (by decide +kernel)
theorem zw831 : (Jvm.Cond.code ({ cls := "SchemaSubjectsModel", name := "isVersion", desc := "(II)Z" } : Jvm.MethodName) prog_8_method_6_code (3 : Nat) (Option.some Jvm.ClassFile.FieldType.boolean)) ∈ zG := z_g 831 (by decide +kernel) (by decide +kernel)
theorem zw832 : (Jvm.Cond.methodLink "SchemaSubjectsModel" (90 : Nat) ({ cls := "SchemaSubjectsModel", name := "schemaOf", desc := "(I)I" } : Jvm.MethodName)) ∈ zG := z_g 832 (by decide +kernel) (by decide +kernel)
theorem zw834 : (Jvm.Cond.instanceMethod ({ cls := "SchemaSubjectsModel", name := "schemaOf", desc := "(I)I" } : Jvm.MethodName)) ∈ zG := z_g 834 (by decide +kernel) (by decide +kernel)
theorem zw835 : (Jvm.Cond.code ({ cls := "SchemaSubjectsModel", name := "schemaOf", desc := "(I)I" } : Jvm.MethodName) prog_8_method_8_code (2 : Nat) (Option.some Jvm.ClassFile.FieldType.int)) ∈ zG := z_g 835 (by decide +kernel) (by decide +kernel)
theorem zw836 : (Jvm.Cond.methodLink "SchemaSubjectsModel" (94 : Nat) ({ cls := "SchemaSubjectsModel", name := "named", desc := "(II)I" } : Jvm.MethodName)) ∈ zG := z_g 836 (by decide +kernel) (by decide +kernel)
theorem zw838 : (Jvm.Cond.instanceMethod ({ cls := "SchemaSubjectsModel", name := "named", desc := "(II)I" } : Jvm.MethodName)) ∈ zG := z_g 838 (by decide +kernel) (by decide +kernel)
theorem zw839 : (Jvm.Cond.code ({ cls := "SchemaSubjectsModel", name := "named", desc := "(II)I" } : Jvm.MethodName) prog_8_method_10_code (4 : Nat) (Option.some Jvm.ClassFile.FieldType.int)) ∈ zG := z_g 839 (by decide +kernel) (by decide +kernel)
theorem zw840 : (Jvm.Cond.methodLink "SchemaSubjectsModel" (102 : Nat) ({ cls := "SchemaSubjectsModel", name := "holds", desc := "(I)Z" } : Jvm.MethodName)) ∈ zG := z_g 840 (by decide +kernel) (by decide +kernel)
theorem zw842 : (Jvm.Cond.instanceMethod ({ cls := "SchemaSubjectsModel", name := "holds", desc := "(I)Z" } : Jvm.MethodName)) ∈ zG := z_g 842 (by decide +kernel) (by decide +kernel)
theorem zw843 : (Jvm.Cond.code ({ cls := "SchemaSubjectsModel", name := "holds", desc := "(I)Z" } : Jvm.MethodName) prog_8_method_3_code (2 : Nat) (Option.some Jvm.ClassFile.FieldType.boolean)) ∈ zG := z_g 843 (by decide +kernel) (by decide +kernel)
theorem zw848 : (Jvm.Cond.methodLink "SchemaSubjectsModel" (106 : Nat) ({ cls := "SchemaSubjectsModel", name := "isValue", desc := "(II)Z" } : Jvm.MethodName)) ∈ zG := z_g 848 (by decide +kernel) (by decide +kernel)
theorem zw850 : (Jvm.Cond.instanceMethod ({ cls := "SchemaSubjectsModel", name := "isValue", desc := "(II)Z" } : Jvm.MethodName)) ∈ zG := z_g 850 (by decide +kernel) (by decide +kernel)
theorem zw851 : (Jvm.Cond.code ({ cls := "SchemaSubjectsModel", name := "isValue", desc := "(II)Z" } : Jvm.MethodName) prog_8_method_13_code (4 : Nat) (Option.some Jvm.ClassFile.FieldType.boolean)) ∈ zG := z_g 851 (by decide +kernel) (by decide +kernel)
theorem zw1001 : (Jvm.Cond.castable "SchemaSubjects" "java/lang/Object") ∈ zG := z_g 1001 (by decide +kernel) (by decide +kernel)
theorem zw1002 : (Jvm.Cond.castable "java/util/ArrayList" "java/lang/Object") ∈ zG := z_g 1002 (by decide +kernel) (by decide +kernel)
theorem zw1003 : (Jvm.Cond.castable "SchemaSubjects$Subject" "java/lang/Object") ∈ zG := z_g 1003 (by decide +kernel) (by decide +kernel)
theorem zw1004 : (Jvm.Cond.castable "SchemaSubjects$Schema" "java/lang/Object") ∈ zG := z_g 1004 (by decide +kernel) (by decide +kernel)
theorem zw1005 : (Jvm.Cond.castable "SchemaSubjects$Row" "java/lang/Object") ∈ zG := z_g 1005 (by decide +kernel) (by decide +kernel)
theorem zw1006 : (Jvm.Cond.castable "SchemaSubjectsModel" "java/lang/Object") ∈ zG := z_g 1006 (by decide +kernel) (by decide +kernel)
theorem zw1010 : (Jvm.Cond.castable "SchemaSubjects$Field" "java/lang/Object") ∈ zG := z_g 1010 (by decide +kernel) (by decide +kernel)
theorem zw1011 : (Jvm.Cond.castable "SchemaSubjects$Version" "java/lang/Object") ∈ zG := z_g 1011 (by decide +kernel) (by decide +kernel)
theorem zcast : zCast := by
  intro k q hq
  match k, hq with
  | 0, hq => cases hq; exact zw1002
  | 1, hq => cases hq; exact zw1010
  | 2, hq => cases hq; exact zw1005
  | 3, hq => cases hq; exact zw1004
  | 4, hq => cases hq; exact zw1003
  | 5, hq => cases hq; exact zw1011
  | 6, hq => cases hq; exact zw1001
  | 7, hq => cases hq; exact zw1006
  | k + 8, hq => simp [vwCl] at hq
theorem fl_X1_15 : zFl "SchemaSubjects$Row" 15 2 1 RX1 TX1 2 tyX1 := ⟨rfl, zin_2, tyX1_ok, nmX1, by decide, "SchemaSubjects$Row", zw192, Or.inl rfl⟩
theorem fl_X1_9 : zFl "SchemaSubjects$Row" 9 2 0 RX1 TX1 2 tyX1 := ⟨rfl, zin_2, tyX1_ok, nmX1, by decide, "SchemaSubjects$Row", zw191, Or.inl rfl⟩
theorem kv_X1_19 : zCv "SchemaSubjects$Row" 19 "SchemaSubjects$Row" yX1_count cX1_count 1 (some .int) 0 := ⟨⟨zw477, zw258, zw259, zw52, zw260⟩, rfl, by decide, by decide, by decide +kernel⟩
theorem kv_X1_23 : zCv "SchemaSubjects$Row" 23 "SchemaSubjects$Row" yX1_at cX1_at 2 (some .int) 1 := ⟨⟨zw478, zw479, zw480, zw52, zw481⟩, rfl, by decide, by decide, by decide +kernel⟩
theorem kv_X1_27 : zCv "SchemaSubjects$Row" 27 "SchemaSubjects$Row" yX1_add cX1_add 2 none 1 := ⟨⟨zw482, zw470, zw471, zw52, zw472⟩, rfl, by decide, by decide, by decide +kernel⟩
theorem fl_X6_71 : zFl "SchemaSubjectsModel" 71 7 0 RX6 TX6 23 tyX6 := ⟨rfl, zin_7, tyX6_ok, nmX6, by decide, "SchemaSubjectsModel", zw734, Or.inl rfl⟩
theorem ks_X6_75 : zCs "SchemaSubjectsModel" 75 yX6_in cX6_in 3 (some .boolean) 3 := ⟨⟨zw821, zw822, zw53, zw823⟩, by decide, by decide, by decide +kernel⟩
theorem fl_X6_44 : zFl "SchemaSubjectsModel" 44 7 13 RX6 TX6 23 tyX6 := ⟨rfl, zin_7, tyX6_ok, nmX6, by decide, "SchemaSubjectsModel", zw747, Or.inl rfl⟩
theorem fl_X6_41 : zFl "SchemaSubjectsModel" 41 7 12 RX6 TX6 23 tyX6 := ⟨rfl, zin_7, tyX6_ok, nmX6, by decide, "SchemaSubjectsModel", zw746, Or.inl rfl⟩
theorem kv_X6_79 : zCv "SchemaSubjectsModel" 79 "SchemaSubjectsModel" yX6_isVersion cX6_isVersion 3 (some .boolean) 2 := ⟨⟨zw828, zw830, zw16, zw53, zw831⟩, rfl, by decide, by decide, by decide +kernel⟩
theorem fl_X6_38 : zFl "SchemaSubjectsModel" 38 7 11 RX6 TX6 23 tyX6 := ⟨rfl, zin_7, tyX6_ok, nmX6, by decide, "SchemaSubjectsModel", zw745, Or.inl rfl⟩
theorem fl_X6_29 : zFl "SchemaSubjectsModel" 29 7 7 RX6 TX6 23 tyX6 := ⟨rfl, zin_7, tyX6_ok, nmX6, by decide, "SchemaSubjectsModel", zw741, Or.inl rfl⟩
theorem fl_X6_7 : zFl "SchemaSubjectsModel" 7 7 1 RX6 TX6 23 tyX6 := ⟨rfl, zin_7, tyX6_ok, nmX6, by decide, "SchemaSubjectsModel", zw735, Or.inl rfl⟩
theorem fl_X6_32 : zFl "SchemaSubjectsModel" 32 7 8 RX6 TX6 23 tyX6 := ⟨rfl, zin_7, tyX6_ok, nmX6, by decide, "SchemaSubjectsModel", zw742, Or.inl rfl⟩
theorem kv_X6_94 : zCv "SchemaSubjectsModel" 94 "SchemaSubjectsModel" yX6_named cX6_named 4 (some .int) 2 := ⟨⟨zw836, zw838, zw18, zw53, zw839⟩, rfl, by decide, by decide, by decide +kernel⟩
theorem kv_X6_90 : zCv "SchemaSubjectsModel" 90 "SchemaSubjectsModel" yX6_schemaOf cX6_schemaOf 2 (some .int) 1 := ⟨⟨zw832, zw834, zw17, zw53, zw835⟩, rfl, by decide, by decide, by decide +kernel⟩
theorem kv_X6_87 : zCv "SchemaSubjectsModel" 87 "SchemaSubjectsModel" yX6_isThereAt cX6_isThereAt 3 (some .boolean) 2 := ⟨⟨zw824, zw826, zw15, zw53, zw827⟩, rfl, by decide, by decide, by decide +kernel⟩
theorem kv_X6_83 : zCv "SchemaSubjectsModel" 83 "SchemaSubjectsModel" yX6_isRange cX6_isRange 6 (some .boolean) 4 := ⟨⟨zw817, zw819, zw14, zw53, zw820⟩, rfl, by decide, by decide, by decide +kernel⟩
theorem fl_X6_13 : zFl "SchemaSubjectsModel" 13 7 2 RX6 TX6 23 tyX6 := ⟨rfl, zin_7, tyX6_ok, nmX6, by decide, "SchemaSubjectsModel", zw736, Or.inl rfl⟩
theorem fl_X6_16 : zFl "SchemaSubjectsModel" 16 7 3 RX6 TX6 23 tyX6 := ⟨rfl, zin_7, tyX6_ok, nmX6, by decide, "SchemaSubjectsModel", zw737, Or.inl rfl⟩
theorem fl_X6_19 : zFl "SchemaSubjectsModel" 19 7 4 RX6 TX6 23 tyX6 := ⟨rfl, zin_7, tyX6_ok, nmX6, by decide, "SchemaSubjectsModel", zw738, Or.inl rfl⟩
theorem fl_X6_22 : zFl "SchemaSubjectsModel" 22 7 5 RX6 TX6 23 tyX6 := ⟨rfl, zin_7, tyX6_ok, nmX6, by decide, "SchemaSubjectsModel", zw739, Or.inl rfl⟩
theorem fl_X6_26 : zFl "SchemaSubjectsModel" 26 7 6 RX6 TX6 23 tyX6 := ⟨rfl, zin_7, tyX6_ok, nmX6, by decide, "SchemaSubjectsModel", zw740, Or.inl rfl⟩
theorem kv_X6_98 : zCv "SchemaSubjectsModel" 98 "SchemaSubjectsModel" yX6_errorOfField cX6_errorOfField 7 (some .int) 4 := ⟨⟨zw813, zw815, zw13, zw53, zw816⟩, rfl, by decide, by decide, by decide +kernel⟩
theorem kv_X6_102 : zCv "SchemaSubjectsModel" 102 "SchemaSubjectsModel" yX6_holds cX6_holds 2 (some .boolean) 1 := ⟨⟨zw840, zw842, zw19, zw53, zw843⟩, rfl, by decide, by decide, by decide +kernel⟩
theorem kv_X6_106 : zCv "SchemaSubjectsModel" 106 "SchemaSubjectsModel" yX6_isValue cX6_isValue 4 (some .boolean) 2 := ⟨⟨zw848, zw850, zw20, zw53, zw851⟩, rfl, by decide, by decide, by decide +kernel⟩
