section
-- ===== PART A: goes FIRST, ahead of the names: the tables' words, and 'selects' of the private methods out of them =====
/-- a private method of a class that the tables say can be made, by its rows of tables_1 -/
def lw_okq (q : MethodName × Nat) : Prop := (q.1.cls ≠ "java/lang/invoke/MethodHandle" ∧ q.1.cls ≠ "java/lang/invoke/VarHandle") ∧ Cond.instantiable q.1.cls q.2 ∈ tables_1 ∧ Cond.privateMethod q.1 ∈ tables_1 ∧ Cond.instanceMethod q.1 ∈ tables_1
theorem lw_p0 : lw_okq (⟨"java/util/ArrayList", "add", "(Ljava/lang/Object;[Ljava/lang/Object;I)V"⟩, 3) := ⟨⟨by decide +kernel, by decide +kernel⟩, List.mem_of_getElem? (i := 32) (by decide +kernel), List.mem_of_getElem? (i := 83) (by decide +kernel), List.mem_of_getElem? (i := 84) (by decide +kernel)⟩
theorem lw_p1 : lw_okq (⟨"java/util/ArrayList", "grow", "()[Ljava/lang/Object;"⟩, 3) := ⟨⟨by decide +kernel, by decide +kernel⟩, List.mem_of_getElem? (i := 32) (by decide +kernel), List.mem_of_getElem? (i := 87) (by decide +kernel), List.mem_of_getElem? (i := 88) (by decide +kernel)⟩
theorem lw_p2 : lw_okq (⟨"java/util/ArrayList", "grow", "(I)[Ljava/lang/Object;"⟩, 3) := ⟨⟨by decide +kernel, by decide +kernel⟩, List.mem_of_getElem? (i := 32) (by decide +kernel), List.mem_of_getElem? (i := 91) (by decide +kernel), List.mem_of_getElem? (i := 92) (by decide +kernel)⟩
theorem lw_p3 : lw_okq (⟨"java/lang/Throwable", "fillInStackTrace", "(I)Ljava/lang/Throwable;"⟩, 6) := ⟨⟨by decide +kernel, by decide +kernel⟩, List.mem_of_getElem? (i := 276) (by decide +kernel), List.mem_of_getElem? (i := 274) (by decide +kernel), List.mem_of_getElem? (i := 275) (by decide +kernel)⟩
theorem lw_p4 : lw_okq (⟨"SchemaSubjects", "referable", "(I)LSchemaSubjects$Schema;"⟩, 6) := ⟨⟨by decide +kernel, by decide +kernel⟩, List.mem_of_getElem? (i := 24) (by decide +kernel), List.mem_of_getElem? (i := 310) (by decide +kernel), List.mem_of_getElem? (i := 311) (by decide +kernel)⟩
theorem lw_p5 : lw_okq (⟨"SchemaSubjects", "demandedSubject", "(I)LSchemaSubjects$Subject;"⟩, 6) := ⟨⟨by decide +kernel, by decide +kernel⟩, List.mem_of_getElem? (i := 24) (by decide +kernel), List.mem_of_getElem? (i := 470) (by decide +kernel), List.mem_of_getElem? (i := 471) (by decide +kernel)⟩
theorem lw_p6 : lw_okq (⟨"SchemaSubjects", "demandDraft", "()V"⟩, 6) := ⟨⟨by decide +kernel, by decide +kernel⟩, List.mem_of_getElem? (i := 24) (by decide +kernel), List.mem_of_getElem? (i := 475) (by decide +kernel), List.mem_of_getElem? (i := 476) (by decide +kernel)⟩
theorem lw_p7 : lw_okq (⟨"SchemaSubjects$Subject", "agrees", "(LSchemaSubjects$Schema;LSchemaSubjects$Schema;)Z"⟩, 3) := ⟨⟨by decide +kernel, by decide +kernel⟩, List.mem_of_getElem? (i := 58) (by decide +kernel), List.mem_of_getElem? (i := 485) (by decide +kernel), List.mem_of_getElem? (i := 486) (by decide +kernel)⟩
theorem lw_p8 : lw_okq (⟨"SchemaSubjects", "takeDraft", "()LSchemaSubjects$Schema;"⟩, 6) := ⟨⟨by decide +kernel, by decide +kernel⟩, List.mem_of_getElem? (i := 24) (by decide +kernel), List.mem_of_getElem? (i := 527) (by decide +kernel), List.mem_of_getElem? (i := 528) (by decide +kernel)⟩
theorem lw_p9 : lw_okq (⟨"SchemaSubjects", "isReferredTo", "(I)Z"⟩, 6) := ⟨⟨by decide +kernel, by decide +kernel⟩, List.mem_of_getElem? (i := 24) (by decide +kernel), List.mem_of_getElem? (i := 566) (by decide +kernel), List.mem_of_getElem? (i := 567) (by decide +kernel)⟩
theorem lw_p10 : lw_okq (⟨"SchemaSubjects", "demandedSchema", "(II)LSchemaSubjects$Schema;"⟩, 6) := ⟨⟨by decide +kernel, by decide +kernel⟩, List.mem_of_getElem? (i := 24) (by decide +kernel), List.mem_of_getElem? (i := 599) (by decide +kernel), List.mem_of_getElem? (i := 600) (by decide +kernel)⟩
theorem lw_p11 : lw_okq (⟨"SchemaSubjects", "demandSubjects", "(II)V"⟩, 6) := ⟨⟨by decide +kernel, by decide +kernel⟩, List.mem_of_getElem? (i := 24) (by decide +kernel), List.mem_of_getElem? (i := 624) (by decide +kernel), List.mem_of_getElem? (i := 625) (by decide +kernel)⟩
theorem lw_p12 : lw_okq (⟨"SchemaSubjects", "isRecordOf", "(LSchemaSubjects$Schema;)Z"⟩, 6) := ⟨⟨by decide +kernel, by decide +kernel⟩, List.mem_of_getElem? (i := 24) (by decide +kernel), List.mem_of_getElem? (i := 668) (by decide +kernel), List.mem_of_getElem? (i := 669) (by decide +kernel)⟩
theorem lw_p13 : lw_okq (⟨"SchemaSubjectsModel", "errorOfField", "(IIII)I"⟩, 23) := ⟨⟨by decide +kernel, by decide +kernel⟩, List.mem_of_getElem? (i := 688) (by decide +kernel), List.mem_of_getElem? (i := 773) (by decide +kernel), List.mem_of_getElem? (i := 774) (by decide +kernel)⟩
theorem lw_p14 : lw_okq (⟨"SchemaSubjectsModel", "isRange", "(IIII)Z"⟩, 23) := ⟨⟨by decide +kernel, by decide +kernel⟩, List.mem_of_getElem? (i := 688) (by decide +kernel), List.mem_of_getElem? (i := 777) (by decide +kernel), List.mem_of_getElem? (i := 778) (by decide +kernel)⟩
theorem lw_p15 : lw_okq (⟨"SchemaSubjectsModel", "isThereAt", "(II)Z"⟩, 23) := ⟨⟨by decide +kernel, by decide +kernel⟩, List.mem_of_getElem? (i := 688) (by decide +kernel), List.mem_of_getElem? (i := 784) (by decide +kernel), List.mem_of_getElem? (i := 785) (by decide +kernel)⟩
def lw_privs_1 : List (MethodName × Nat) := [(⟨"java/util/ArrayList", "add", "(Ljava/lang/Object;[Ljava/lang/Object;I)V"⟩, 3), (⟨"java/util/ArrayList", "grow", "()[Ljava/lang/Object;"⟩, 3), (⟨"java/util/ArrayList", "grow", "(I)[Ljava/lang/Object;"⟩, 3), (⟨"java/lang/Throwable", "fillInStackTrace", "(I)Ljava/lang/Throwable;"⟩, 6), (⟨"SchemaSubjects", "referable", "(I)LSchemaSubjects$Schema;"⟩, 6), (⟨"SchemaSubjects", "demandedSubject", "(I)LSchemaSubjects$Subject;"⟩, 6), (⟨"SchemaSubjects", "demandDraft", "()V"⟩, 6), (⟨"SchemaSubjects$Subject", "agrees", "(LSchemaSubjects$Schema;LSchemaSubjects$Schema;)Z"⟩, 3), (⟨"SchemaSubjects", "takeDraft", "()LSchemaSubjects$Schema;"⟩, 6), (⟨"SchemaSubjects", "isReferredTo", "(I)Z"⟩, 6), (⟨"SchemaSubjects", "demandedSchema", "(II)LSchemaSubjects$Schema;"⟩, 6), (⟨"SchemaSubjects", "demandSubjects", "(II)V"⟩, 6), (⟨"SchemaSubjects", "isRecordOf", "(LSchemaSubjects$Schema;)Z"⟩, 6), (⟨"SchemaSubjectsModel", "errorOfField", "(IIII)I"⟩, 23), (⟨"SchemaSubjectsModel", "isRange", "(IIII)Z"⟩, 23), (⟨"SchemaSubjectsModel", "isThereAt", "(II)Z"⟩, 23)]
theorem lw_r1 : ∀ q ∈ lw_privs_1, lw_okq q := List.forall_mem_cons.mpr ⟨lw_p0, List.forall_mem_cons.mpr ⟨lw_p1, List.forall_mem_cons.mpr ⟨lw_p2, List.forall_mem_cons.mpr ⟨lw_p3, List.forall_mem_cons.mpr ⟨lw_p4, List.forall_mem_cons.mpr ⟨lw_p5, List.forall_mem_cons.mpr ⟨lw_p6, List.forall_mem_cons.mpr ⟨lw_p7, List.forall_mem_cons.mpr ⟨lw_p8, List.forall_mem_cons.mpr ⟨lw_p9, List.forall_mem_cons.mpr ⟨lw_p10, List.forall_mem_cons.mpr ⟨lw_p11, List.forall_mem_cons.mpr ⟨lw_p12, List.forall_mem_cons.mpr ⟨lw_p13, List.forall_mem_cons.mpr ⟨lw_p14, List.forall_mem_cons.mpr ⟨lw_p15, fun _ h => absurd h List.not_mem_nil⟩⟩⟩⟩⟩⟩⟩⟩⟩⟩⟩⟩⟩⟩⟩⟩
theorem lw_p16 : lw_okq (⟨"SchemaSubjectsModel", "isVersion", "(II)Z"⟩, 23) := ⟨⟨by decide +kernel, by decide +kernel⟩, List.mem_of_getElem? (i := 688) (by decide +kernel), List.mem_of_getElem? (i := 788) (by decide +kernel), List.mem_of_getElem? (i := 789) (by decide +kernel)⟩
theorem lw_p17 : lw_okq (⟨"SchemaSubjectsModel", "schemaOf", "(I)I"⟩, 23) := ⟨⟨by decide +kernel, by decide +kernel⟩, List.mem_of_getElem? (i := 688) (by decide +kernel), List.mem_of_getElem? (i := 792) (by decide +kernel), List.mem_of_getElem? (i := 793) (by decide +kernel)⟩
theorem lw_p18 : lw_okq (⟨"SchemaSubjectsModel", "named", "(II)I"⟩, 23) := ⟨⟨by decide +kernel, by decide +kernel⟩, List.mem_of_getElem? (i := 688) (by decide +kernel), List.mem_of_getElem? (i := 796) (by decide +kernel), List.mem_of_getElem? (i := 797) (by decide +kernel)⟩
theorem lw_p19 : lw_okq (⟨"SchemaSubjectsModel", "holds", "(I)Z"⟩, 23) := ⟨⟨by decide +kernel, by decide +kernel⟩, List.mem_of_getElem? (i := 688) (by decide +kernel), List.mem_of_getElem? (i := 800) (by decide +kernel), List.mem_of_getElem? (i := 801) (by decide +kernel)⟩
theorem lw_p20 : lw_okq (⟨"SchemaSubjectsModel", "isValue", "(II)Z"⟩, 23) := ⟨⟨by decide +kernel, by decide +kernel⟩, List.mem_of_getElem? (i := 688) (by decide +kernel), List.mem_of_getElem? (i := 808) (by decide +kernel), List.mem_of_getElem? (i := 809) (by decide +kernel)⟩
theorem lw_p21 : lw_okq (⟨"SchemaSubjectsModel", "empties", "()V"⟩, 23) := ⟨⟨by decide +kernel, by decide +kernel⟩, List.mem_of_getElem? (i := 688) (by decide +kernel), List.mem_of_getElem? (i := 816) (by decide +kernel), List.mem_of_getElem? (i := 817) (by decide +kernel)⟩
theorem lw_p22 : lw_okq (⟨"SchemaSubjectsModel", "isAcceptedBy", "(I)Z"⟩, 23) := ⟨⟨by decide +kernel, by decide +kernel⟩, List.mem_of_getElem? (i := 688) (by decide +kernel), List.mem_of_getElem? (i := 827) (by decide +kernel), List.mem_of_getElem? (i := 828) (by decide +kernel)⟩
theorem lw_p23 : lw_okq (⟨"SchemaSubjectsModel", "tells", "()V"⟩, 23) := ⟨⟨by decide +kernel, by decide +kernel⟩, List.mem_of_getElem? (i := 688) (by decide +kernel), List.mem_of_getElem? (i := 831) (by decide +kernel), List.mem_of_getElem? (i := 832) (by decide +kernel)⟩
theorem lw_p24 : lw_okq (⟨"SchemaSubjectsModel", "canReadNow", "(II)Z"⟩, 23) := ⟨⟨by decide +kernel, by decide +kernel⟩, List.mem_of_getElem? (i := 688) (by decide +kernel), List.mem_of_getElem? (i := 835) (by decide +kernel), List.mem_of_getElem? (i := 836) (by decide +kernel)⟩
theorem lw_p25 : lw_okq (⟨"SchemaSubjectsModel", "source", "(II)I"⟩, 23) := ⟨⟨by decide +kernel, by decide +kernel⟩, List.mem_of_getElem? (i := 688) (by decide +kernel), List.mem_of_getElem? (i := 839) (by decide +kernel), List.mem_of_getElem? (i := 840) (by decide +kernel)⟩
theorem lw_p26 : lw_okq (⟨"SchemaSubjectsModel", "isRead", "(II)Z"⟩, 23) := ⟨⟨by decide +kernel, by decide +kernel⟩, List.mem_of_getElem? (i := 688) (by decide +kernel), List.mem_of_getElem? (i := 843) (by decide +kernel), List.mem_of_getElem? (i := 844) (by decide +kernel)⟩
theorem lw_p27 : lw_okq (⟨"SchemaSubjectsModel", "errorOfRegister", "(I)I"⟩, 23) := ⟨⟨by decide +kernel, by decide +kernel⟩, List.mem_of_getElem? (i := 688) (by decide +kernel), List.mem_of_getElem? (i := 851) (by decide +kernel), List.mem_of_getElem? (i := 852) (by decide +kernel)⟩
theorem lw_p28 : lw_okq (⟨"SchemaSubjectsModel", "likeVersion", "(I)I"⟩, 23) := ⟨⟨by decide +kernel, by decide +kernel⟩, List.mem_of_getElem? (i := 688) (by decide +kernel), List.mem_of_getElem? (i := 855) (by decide +kernel), List.mem_of_getElem? (i := 856) (by decide +kernel)⟩
theorem lw_p29 : lw_okq (⟨"SchemaSubjectsModel", "isLike", "(I)Z"⟩, 23) := ⟨⟨by decide +kernel, by decide +kernel⟩, List.mem_of_getElem? (i := 688) (by decide +kernel), List.mem_of_getElem? (i := 859) (by decide +kernel), List.mem_of_getElem? (i := 860) (by decide +kernel)⟩
theorem lw_p30 : lw_okq (⟨"SchemaSubjectsModel", "numbered", "()I"⟩, 23) := ⟨⟨by decide +kernel, by decide +kernel⟩, List.mem_of_getElem? (i := 688) (by decide +kernel), List.mem_of_getElem? (i := 863) (by decide +kernel), List.mem_of_getElem? (i := 864) (by decide +kernel)⟩
theorem lw_p31 : lw_okq (⟨"SchemaSubjectsModel", "errorOfDelete", "(IIZ)I"⟩, 23) := ⟨⟨by decide +kernel, by decide +kernel⟩, List.mem_of_getElem? (i := 688) (by decide +kernel), List.mem_of_getElem? (i := 875) (by decide +kernel), List.mem_of_getElem? (i := 876) (by decide +kernel)⟩
def lw_privs_2 : List (MethodName × Nat) := [(⟨"SchemaSubjectsModel", "isVersion", "(II)Z"⟩, 23), (⟨"SchemaSubjectsModel", "schemaOf", "(I)I"⟩, 23), (⟨"SchemaSubjectsModel", "named", "(II)I"⟩, 23), (⟨"SchemaSubjectsModel", "holds", "(I)Z"⟩, 23), (⟨"SchemaSubjectsModel", "isValue", "(II)Z"⟩, 23), (⟨"SchemaSubjectsModel", "empties", "()V"⟩, 23), (⟨"SchemaSubjectsModel", "isAcceptedBy", "(I)Z"⟩, 23), (⟨"SchemaSubjectsModel", "tells", "()V"⟩, 23), (⟨"SchemaSubjectsModel", "canReadNow", "(II)Z"⟩, 23), (⟨"SchemaSubjectsModel", "source", "(II)I"⟩, 23), (⟨"SchemaSubjectsModel", "isRead", "(II)Z"⟩, 23), (⟨"SchemaSubjectsModel", "errorOfRegister", "(I)I"⟩, 23), (⟨"SchemaSubjectsModel", "likeVersion", "(I)I"⟩, 23), (⟨"SchemaSubjectsModel", "isLike", "(I)Z"⟩, 23), (⟨"SchemaSubjectsModel", "numbered", "()I"⟩, 23), (⟨"SchemaSubjectsModel", "errorOfDelete", "(IIZ)I"⟩, 23)]
theorem lw_r2 : ∀ q ∈ lw_privs_2, lw_okq q := List.forall_mem_cons.mpr ⟨lw_p16, List.forall_mem_cons.mpr ⟨lw_p17, List.forall_mem_cons.mpr ⟨lw_p18, List.forall_mem_cons.mpr ⟨lw_p19, List.forall_mem_cons.mpr ⟨lw_p20, List.forall_mem_cons.mpr ⟨lw_p21, List.forall_mem_cons.mpr ⟨lw_p22, List.forall_mem_cons.mpr ⟨lw_p23, List.forall_mem_cons.mpr ⟨lw_p24, List.forall_mem_cons.mpr ⟨lw_p25, List.forall_mem_cons.mpr ⟨lw_p26, List.forall_mem_cons.mpr ⟨lw_p27, List.forall_mem_cons.mpr ⟨lw_p28, List.forall_mem_cons.mpr ⟨lw_p29, List.forall_mem_cons.mpr ⟨lw_p30, List.forall_mem_cons.mpr ⟨lw_p31, fun _ h => absurd h List.not_mem_nil⟩⟩⟩⟩⟩⟩⟩⟩⟩⟩⟩⟩⟩⟩⟩⟩
theorem lw_p32 : lw_okq (⟨"SchemaSubjectsModel", "isReferred", "(I)Z"⟩, 23) := ⟨⟨by decide +kernel, by decide +kernel⟩, List.mem_of_getElem? (i := 688) (by decide +kernel), List.mem_of_getElem? (i := 879) (by decide +kernel), List.mem_of_getElem? (i := 880) (by decide +kernel)⟩
theorem lw_p33 : lw_okq (⟨"SchemaSubjectsModel", "refers", "(II)Z"⟩, 23) := ⟨⟨by decide +kernel, by decide +kernel⟩, List.mem_of_getElem? (i := 688) (by decide +kernel), List.mem_of_getElem? (i := 883) (by decide +kernel), List.mem_of_getElem? (i := 884) (by decide +kernel)⟩
theorem lw_p34 : lw_okq (⟨"SchemaSubjectsModel", "isAsked", "(II)Z"⟩, 23) := ⟨⟨by decide +kernel, by decide +kernel⟩, List.mem_of_getElem? (i := 688) (by decide +kernel), List.mem_of_getElem? (i := 895) (by decide +kernel), List.mem_of_getElem? (i := 896) (by decide +kernel)⟩
theorem lw_p35 : lw_okq (⟨"SchemaSubjectsModel", "errorOfBoth", "(IIII)I"⟩, 23) := ⟨⟨by decide +kernel, by decide +kernel⟩, List.mem_of_getElem? (i := 688) (by decide +kernel), List.mem_of_getElem? (i := 911) (by decide +kernel), List.mem_of_getElem? (i := 912) (by decide +kernel)⟩
theorem lw_p36 : lw_okq (⟨"SchemaSubjectsModel", "canOf", "(IIII)Z"⟩, 23) := ⟨⟨by decide +kernel, by decide +kernel⟩, List.mem_of_getElem? (i := 688) (by decide +kernel), List.mem_of_getElem? (i := 915) (by decide +kernel), List.mem_of_getElem? (i := 916) (by decide +kernel)⟩
theorem lw_p37 : lw_okq (⟨"SchemaSubjectsModel", "small", "(I)I"⟩, 23) := ⟨⟨by decide +kernel, by decide +kernel⟩, List.mem_of_getElem? (i := 688) (by decide +kernel), List.mem_of_getElem? (i := 923) (by decide +kernel), List.mem_of_getElem? (i := 924) (by decide +kernel)⟩
theorem lw_p38 : lw_okq (⟨"SchemaSubjectsModel", "isRecordOf", "(I)Z"⟩, 23) := ⟨⟨by decide +kernel, by decide +kernel⟩, List.mem_of_getElem? (i := 688) (by decide +kernel), List.mem_of_getElem? (i := 939) (by decide +kernel), List.mem_of_getElem? (i := 940) (by decide +kernel)⟩
theorem lw_p39 : lw_okq (⟨"SchemaSubjectsModel", "reads", "(II)I"⟩, 23) := ⟨⟨by decide +kernel, by decide +kernel⟩, List.mem_of_getElem? (i := 688) (by decide +kernel), List.mem_of_getElem? (i := 947) (by decide +kernel), List.mem_of_getElem? (i := 948) (by decide +kernel)⟩
theorem lw_p40 : lw_okq (⟨"SchemaSubjectsModel", "ahead", "(II)I"⟩, 23) := ⟨⟨by decide +kernel, by decide +kernel⟩, List.mem_of_getElem? (i := 688) (by decide +kernel), List.mem_of_getElem? (i := 951) (by decide +kernel), List.mem_of_getElem? (i := 952) (by decide +kernel)⟩
def lw_privs_3 : List (MethodName × Nat) := [(⟨"SchemaSubjectsModel", "isReferred", "(I)Z"⟩, 23), (⟨"SchemaSubjectsModel", "refers", "(II)Z"⟩, 23), (⟨"SchemaSubjectsModel", "isAsked", "(II)Z"⟩, 23), (⟨"SchemaSubjectsModel", "errorOfBoth", "(IIII)I"⟩, 23), (⟨"SchemaSubjectsModel", "canOf", "(IIII)Z"⟩, 23), (⟨"SchemaSubjectsModel", "small", "(I)I"⟩, 23), (⟨"SchemaSubjectsModel", "isRecordOf", "(I)Z"⟩, 23), (⟨"SchemaSubjectsModel", "reads", "(II)I"⟩, 23), (⟨"SchemaSubjectsModel", "ahead", "(II)I"⟩, 23)]
theorem lw_r3 : ∀ q ∈ lw_privs_3, lw_okq q := List.forall_mem_cons.mpr ⟨lw_p32, List.forall_mem_cons.mpr ⟨lw_p33, List.forall_mem_cons.mpr ⟨lw_p34, List.forall_mem_cons.mpr ⟨lw_p35, List.forall_mem_cons.mpr ⟨lw_p36, List.forall_mem_cons.mpr ⟨lw_p37, List.forall_mem_cons.mpr ⟨lw_p38, List.forall_mem_cons.mpr ⟨lw_p39, List.forall_mem_cons.mpr ⟨lw_p40, fun _ h => absurd h List.not_mem_nil⟩⟩⟩⟩⟩⟩⟩⟩⟩
def lw_privs : List (MethodName × Nat) := lw_privs_1 ++ (lw_privs_2 ++ (lw_privs_3))
def lw_tbl : List Cond := k2_sels lw_privs ++ tables_1
theorem lw_privs_ok : ∀ q ∈ lw_privs, lw_okq q := by
  show ∀ q ∈ lw_privs_1 ++ (lw_privs_2 ++ (lw_privs_3)), lw_okq q
  exact List.forall_mem_append.mpr ⟨lw_r1, List.forall_mem_append.mpr ⟨lw_r2, lw_r3⟩⟩
end
section
/-! ===== BEGIN words of one list among another's, by their places ===== -/
theorem goodIn_r {big : List Cond} (ws : List Cond) (ps : List Nat) (hp : ws = ps.filterMap (fun i => big[i]?)) (h : ws.all goodWord = true) : GoodIn big ws := by
  intro w hw
  have h1 := List.all_eq_true.mp h w hw
  rw [hp] at hw
  obtain ⟨i, -, hi⟩ := List.mem_filterMap.mp hw
  have hm : w ∈ big := by first | exact List.mem_of_getElem? hi | exact List.getElem?_mem hi
  exact ⟨hm, good_of_word h1⟩
theorem goodIn_app {big a b : List Cond} (ha : GoodIn big a) (hb : GoodIn big b) : GoodIn big (a ++ b) := fun w h => (List.mem_append.mp h).elim (ha w) (hb w)
theorem goodIn_ca {big a b : List Cond} {c : Cond} (ha : GoodIn big (c :: a)) (hb : GoodIn big b) : GoodIn big (c :: (a ++ b)) := fun w h => (List.mem_cons.mp h).elim (fun e => ha w (List.mem_cons.mpr (Or.inl e))) (fun h => (List.mem_append.mp h).elim (fun h => ha w (List.mem_cons.mpr (Or.inr h))) (hb w))
theorem goodIn_sub {big ws : List Cond} (hm : ∀ w ∈ ws, w ∈ big) (h : ws.all goodWord = true) : GoodIn big ws := fun w hw => ⟨hm w hw, good_of_word (List.all_eq_true.mp h w hw)⟩
/-! ===== END ===== -/

/-! ===== BEGIN exceptions that leave a method, and their catching by the caller (launches without stack traces) ===== -/
section VXA
/-! The laws vx_back, vx_callV, vx_callS, vx_callSW, vx_throw0, vx_throwS follow proofs of the library, with one case more: JvmDerived/Free/Laws.lean (Back.of_free), Shelf42/LK1.lean (callV, callS), Shelf/KitTraced.lean (throwNew0V, throwNewS). -/
/-- where a method has thrown q: the class by its name, the cell, what was written, the world -/
def vx_T (XC : String → State → State → Prop) (st : State) (q : Addr) (t : State) (mc ms : Nat) (free : Addr → Prop) : Prop :=
  ∃ (E : String) (ce : Cell) (L : List Loc), XC E st t ∧ t.heap[q]? = some ce ∧ ce.vm = .none ∧ st.vm.findClass E = some ce.cls ∧ st.WarmedH t.vm ∧ st.sameButNew ({ t with vm := st.vm } : State) L mc ms ∧ ∀ z ∈ L, free z.base
def vx_Q (Qc : Array Value → State → Outcome → State → Prop) (XC : String → State → State → Prop) (mc ms : Nat) (free : Addr → Prop) : Array Value → State → Outcome → State → Prop := fun a st o t =>
  (Qc a st o t ∧ ∃ L, FrameEnd st o t L mc ms ∧ ∀ q ∈ L, free q.base) ∨ ∃ q, o = .threw q ∧ vx_T XC st q t mc ms free
/-- a callee that returns or throws -/
def vx_Met (l : Launch) (y : MethodName) (ws : List Cond) (rm : Room) (Pc : Array Value → State → Prop) (Qc : Array Value → State → Outcome → State → Prop) (XC : String → State → State → Prop) (mc ms : Nat) (free : Addr → Prop) : Prop :=
  MetFree l y (headSpec ws rm) Pc (fun _ _ _ _ _ => True) (vx_Q Qc XC mc ms free)
def vx_Post (XC : String → State → State → Prop) (mc ms : Nat) (free : Addr → Prop) : Pt → Array Value → Addr → Pt → Prop := fun A a q B =>
  ∃ (g : JFrame) (mk : MethodId) (t : State) (L : List Loc) (E : String) (ce : Cell), B.U.heap = t.heap ∧ B.U.vm = t.vm ∧ XC E (A.U.calling g mk a) t ∧ t.heap[q]? = some ce ∧ ce.vm = .none ∧ A.U.vm.findClass E = some ce.cls ∧ B.locs = A.locs ++ L ∧ (∀ z ∈ L, free z.base) ∧ B.cells = A.cells + mc ∧ B.slots = A.slots + ms
def vx_Back (l : Launch) (R : Room) (p : Program) (e : Env) (below : List Frame) (s : State) (sargs : Array Value) (y : MethodName) (len W9 : Nat)
    (Pre : Pt → Array Value → Prop) (Post : Pt → Array Value → Option Value → Pt → Prop) (PostX : Pt → Array Value → Addr → Pt → Prop) : Prop :=
  ∀ (m : MethodId) (meth : Method) (c : Code) (A : Pt) (g : JFrame) (ig : Instr) (mk : MethodId) (a : Array Value),
    Stand p l e R s m sargs below meth c A.U A.locs A.cells A.slots → g.method = m → g.locals.size = c.maxLocals → decode c.code g.pc = .ok (ig, len) →
    2 * g.monitorRoom + (g.stack.map fun v => v.category).sum ≤ W9 → A.U.methodNamed? y = some mk → Pre A a →
    (∃ (v : Option Value) (B : Pt), Stand p l e R s m sargs below meth c B.U B.locs B.cells B.slots ∧ Post A a v B ∧
      Steps p.tables e below (doInvoke e (A.U.setTop g) [] mk a).1 (B.U.setTop { g with pc := g.pc + len, stack := v.toList ++ g.stack })) ∨
    (∃ (q : Addr) (B : Pt), Stand p l e R s m sargs below meth c B.U B.locs B.cells B.slots ∧ PostX A a q B ∧
      Steps p.tables e below (doInvoke e (A.U.setTop g) [] mk a).1 ((B.U.setTop g).pushFrame (.throwing q)))
section Payer
variable {l : Launch} {R : Room} {p : Program} {e : Env} {below : List Frame} {s : State} {sargs : Array Value} {y : MethodName} {len W9 : Nat}
theorem vx_back {ws : List Cond} {rm : Room} {Pc : Array Value → State → Prop} {Qc : Array Value → State → Outcome → State → Prop} {XC : String → State → State → Prop} {mc ms : Nat} {free : Addr → Prop} {bytes : ByteArray} {maxL : Nat} {ret : Option FieldType}
    (hM : vx_Met l y ws rm Pc Qc XC mc ms free) (hblind : FrameBlind Pc) (hrc : rm.cells = mc) (hrs : rm.slots = ms)
    (hframes : rm.frames + 1 ≤ R.frames) (hlocals : W9 + (maxL + 11) + rm.locals ≤ R.locals)
    (hws : ∀ w ∈ ws, ∀ a' U, s.WarmedH U.vm → w.before a' U = true) (hcode : Cond.code y bytes maxL ret ∈ ws) (hinit : ∀ a' U, s.WarmedH U.vm → (Cond.initialized y.cls).before a' U = true) :
    vx_Back l R p e below s sargs y len W9 (PreOf R mc ms Pc) (PostOf Qc mc ms free) (vx_Post XC mc ms free) := by
  intro m meth c A g ig mk a X hg hsize hdg hW hn hp
  have h1 : (headSpec ws rm).pre.before a A.U = true := atoms_intro fun w hw => hws w hw _ _ X.warmed
  have h2 : (Cond.code y bytes maxL ret).before a A.U = true := hws _ hcode _ _ X.warmed
  have h3 : (Cond.initialized y.cls).before a A.U = true := hinit _ _ X.warmed
  have h4 : A.cells + (headSpec ws rm).room.cells ≤ R.cells := by rw [show (headSpec ws rm).room.cells = mc from hrc]; exact hp.1
  have h5 : A.slots + (headSpec ws rm).room.slots ≤ R.slots := by rw [show (headSpec ws rm).room.slots = ms from hrs]; exact hp.2.1
  have hPc : Pc a (A.U.calling g mk a) := hblind _ _ _ _ hp.2.2
  obtain ⟨U, Ls, c0, s0⟩ := A
  dsimp only [Pt.U, Pt.locs, Pt.cells, Pt.slots] at h1 h2 h3 h4 h5 X hn hPc ⊢
  obtain ⟨methY, cY, hmY, hcY, -, hlY, -, -, -, -⟩ := Cond.code_spec hn h2
  obtain ⟨kY, hkY, -⟩ := className_of_methodNamed hn
  have hinitY : kY.init = .initialized := Cond.initialized_spec (findClass_of_methodNamed hn) hkY h3
  have h : At U g.method c below := by rw [hg]; exact X.here
  have hlocals9 : W9 + (maxL + 11) + (headSpec ws rm).room.locals ≤ R.locals := hlocals
  have happ : (headSpec ws rm).appliesLoose y e.platform (U.calling g mk a) = true :=
    Spec.appliesLoose_calling (g := g) h hdg hn hkY hinitY
      (X.room_calling (g := g) (R' := (headSpec ws rm).room) hsize hmY hcY hframes (by rw [hlY]; omega) h4 h5) h1
  obtain ⟨mid, hmid⟩ := h.above
  have hfr : (U.setTop g).frames = (.java g :: mid) ++ below := by rw [State.frames_setTop' g h.top, hmid]; rfl
  obtain ⟨o, s₂, hsteps, -, hend, hq⟩ := Steps.callFree hM p X.admits X.cas X.clock (acts := []) hfr happ hPc trivial
  have hq' : vx_Q Qc XC mc ms free a (U.calling g mk a) o s₂ := hq
  rw [State.frames_setTop' g h.top] at hend
  obtain ⟨g₀, hg0⟩ := Option.isSome_iff_exists.mp h.top
  obtain ⟨r, hr⟩ := State.topJava?_eq_some.mp hg0
  have hr' : (({ U with heap := s₂.heap, slotsUsed := s₂.slotsUsed } : State).setVm s₂.vm).frames = .java g₀ :: r := hr
  rcases hq' with ⟨hqc, L, hfe, hL⟩ | ⟨q, rfl, E, ce, L, hx, hce, hcv, hcl, hW₂, hsm, hL⟩
  · obtain ⟨⟨v, rfl⟩, hW₂, e2, q2, q3, q4, q5, q6⟩ := id hfe
    have e3 : s₂ = ({ (U.calling g mk a).setFrames s₂.frames with heap := s₂.heap, slotsUsed := s₂.slotsUsed } : State).setVm s₂.vm := by
      have : s₂ = ({ s₂ with vm := (U.calling g mk a).vm } : State).setVm s₂.vm := rfl
      rw [e2] at this
      exact this
    obtain ⟨c₂, i₂, len₂, hc₂, hd₂, hf₂⟩ := hend
    have hW' : U.WarmedH s₂.vm := hW₂
    have hcc : c₂ = c := by
      have h1 : s₂.code? g.method = U.code? g.method := by
        rw [State.code?_eq, State.code?_eq, hW'.alike.method?]
      exact Option.some.inj (hc₂.symm.trans (h1.trans h.code))
    subst hcc
    have hlen : len₂ = len := by rw [hdg] at hd₂; cases hd₂; rfl
    subst hlen
    have hs₂ : s₂ = (({ U with heap := s₂.heap, slotsUsed := s₂.slotsUsed } : State).setVm s₂.vm).setTop { g with pc := g.pc + len₂, stack := v.toList ++ g.stack } := by
      refine e3.trans ?_
      rw [hf₂, State.calling_eq h.top, State.setFrames_setFrames, State.setTop_of_frames _ hr', hr]
      rfl
    have hsame : U.sameButNew ({ U with heap := s₂.heap, slotsUsed := s₂.slotsUsed } : State) L mc ms := by
      refine ⟨?_, q2, q3, q4, q5, q6⟩
      obtain ⟨t, ht, -⟩ := State.frames_cons hr
      show ({ U with heap := s₂.heap, slotsUsed := s₂.slotsUsed } : State) = { U.setFrames U.frames with heap := s₂.heap, slotsUsed := s₂.slotsUsed }
      rw [State.setFrames_self ht]
    subst hg
    refine Or.inl ⟨v, ⟨(({ U with heap := s₂.heap, slotsUsed := s₂.slotsUsed } : State).setVm s₂.vm), Ls ++ L, c0 + mc, s0 + ms⟩,
      ⟨X.admits, X.cas, X.clock, X.frames, X.room, X.hears, X.method, X.code, (X.here.setHeapUsed s₂.heap s₂.slotsUsed).setVm hW'.alike, X.tail, State.WarmedH.trans X.warmed hW', X.limits, X.bytes, X.same.trans (hsame.setVm s.vm)⟩,
      ⟨g, mk, s₂, L, rfl, rfl, hqc, rfl, hL, rfl, rfl⟩, ?_⟩
    show Steps p.tables e below _ ((({ U with heap := s₂.heap, slotsUsed := s₂.slotsUsed } : State).setVm s₂.vm).setTop { g with pc := g.pc + len₂, stack := v.toList ++ g.stack })
    rw [← hs₂]
    exact hsteps
  · obtain ⟨e2, q2, q3, q4, q5, q6⟩ := id hsm
    have e3 : s₂ = ({ (U.calling g mk a).setFrames s₂.frames with heap := s₂.heap, slotsUsed := s₂.slotsUsed } : State).setVm s₂.vm := by
      have : s₂ = ({ s₂ with vm := (U.calling g mk a).vm } : State).setVm s₂.vm := rfl
      rw [e2] at this
      exact this
    have hf₂ : s₂.frames = .throwing q :: .java g :: U.frames.tail := hend
    have hW' : U.WarmedH s₂.vm := hW₂
    have hs₂ : s₂ = ((({ U with heap := s₂.heap, slotsUsed := s₂.slotsUsed } : State).setVm s₂.vm).setTop g).pushFrame (.throwing q) := by
      refine e3.trans ?_
      rw [hf₂, State.calling_eq h.top, State.setFrames_setFrames, State.pushFrame, State.frames_setTop _ hr', State.setTop_of_frames _ hr', State.setFrames_setFrames, hr]
      rfl
    have hsame : U.sameButNew ({ U with heap := s₂.heap, slotsUsed := s₂.slotsUsed } : State) L mc ms := by
      refine ⟨?_, q2, q3, q4, q5, q6⟩
      obtain ⟨t, ht, -⟩ := State.frames_cons hr
      show ({ U with heap := s₂.heap, slotsUsed := s₂.slotsUsed } : State) = { U.setFrames U.frames with heap := s₂.heap, slotsUsed := s₂.slotsUsed }
      rw [State.setFrames_self ht]
    subst hg
    refine Or.inr ⟨q, ⟨(({ U with heap := s₂.heap, slotsUsed := s₂.slotsUsed } : State).setVm s₂.vm), Ls ++ L, c0 + mc, s0 + ms⟩,
      ⟨X.admits, X.cas, X.clock, X.frames, X.room, X.hears, X.method, X.code, (X.here.setHeapUsed s₂.heap s₂.slotsUsed).setVm hW'.alike, X.tail, State.WarmedH.trans X.warmed hW', X.limits, X.bytes, X.same.trans (hsame.setVm s.vm)⟩,
      ⟨g, mk, s₂, L, E, ce, rfl, rfl, hx, hce, hcv, hcl, rfl, hL, rfl, rfl⟩, ?_⟩
    show Steps p.tables e below _ (((({ U with heap := s₂.heap, slotsUsed := s₂.slotsUsed } : State).setVm s₂.vm).setTop g).pushFrame (.throwing q))
    rw [← hs₂]
    exact hsteps
end Payer
section Calls
variable {p : Program} {l : Launch} {e : Env} {R : Room} {s : State} {m : MethodId} {args : Array Value} {below : List Frame} {meth : Method} {c : Code} {T : State} {locs : List Loc} {cells slots : Nat}
theorem vx_callV (X : Stand p l e R s m args below meth c T locs cells slots) (hexec : p.tables.exec = Jvm.exec) {own C : String} {index : Nat} {y : MethodName} {bytes : ByteArray} {maxL : Nat} {ret : Option FieldType}
    (hown : s.vm.findClass own = some m.cls) (hlink : (Cond.methodLink own index y).before args s = true) (hinst : (Cond.instanceMethod y).before args s = true) (hsel : (Cond.selects C y y).before args s = true)
    (hcode : (Cond.code y bytes maxL ret).before args s = true) (hy : y.cls ≠ "java/lang/invoke/MethodHandle" ∧ y.cls ≠ "java/lang/invoke/VarHandle")
    {W9 : Nat} {Pre : Pt → Array Value → Prop} {Post : Pt → Array Value → Option Value → Pt → Prop} {PostX : Pt → Array Value → Addr → Pt → Prop} (hK : vx_Back l R p e below s args y 3 W9 Pre Post PostX)
    {b : Addr} {cellB : Cell} (hcell : T.heap[b]? = some cellB) (hobj : cellB.vm.isStatics = false) (hcls : s.vm.findClass C = some cellB.cls)
    {g : JFrame} (hg : g.method = m) (hsize : g.locals.size = c.maxLocals) {argsL rest : List Value} (hlen : ∀ sig, parseMethodDescriptor y.desc = some sig → argsL.length = sig.parameters.length)
    (hstack : g.stack = argsL.reverse ++ .ref b :: rest) (hW : 2 * g.monitorRoom + (rest.map fun v => v.category).sum ≤ W9) (hdg : decode c.code g.pc = .ok (.invokevirtual index, 3))
    (hpre : ∀ vm₁, s.WarmedH vm₁ → Pre ⟨T.setVm vm₁, locs, cells, slots⟩ (Value.ref b :: argsL).toArray) :
    (∃ (v : Option Value) (vm₁ : Vm) (B : Pt), s.WarmedH vm₁ ∧ Stand p l e R s m args below meth c B.U B.locs B.cells B.slots ∧ Post ⟨T.setVm vm₁, locs, cells, slots⟩ (Value.ref b :: argsL).toArray v B ∧
      ∀ target, Steps p.tables e below (B.U.setTop { g with pc := g.pc + 3, stack := v.toList ++ rest }) target → Steps p.tables e below (T.setTop g) target) ∨
    (∃ (q : Addr) (vm₁ : Vm) (B : Pt), s.WarmedH vm₁ ∧ Stand p l e R s m args below meth c B.U B.locs B.cells B.slots ∧ PostX ⟨T.setVm vm₁, locs, cells, slots⟩ (Value.ref b :: argsL).toArray q B ∧
      Steps p.tables e below (T.setTop g) ((B.U.setTop { g with stack := rest }).pushFrame (.throwing q))) := by
  obtain ⟨mk, methM, hnamed, hmethM, hstM, habM⟩ := Cond.instanceMethod_spec hinst
  obtain ⟨methM', cM, hmethM', -, -, -, -, -, -, hsigM⟩ := Cond.code_spec hnamed hcode
  cases hmethM.symm.trans hmethM'
  obtain ⟨c2, r2, m2, q1, q2, q3, q4, kP, hkP, hkPi⟩ := Cond.selects_spec hsel
  cases hcls.symm.trans q1
  cases (State.methodFound?_of_named hnamed hy).symm.trans q2
  cases hnamed.symm.trans q3
  have hselP : selectMethod e.platform s.vm cellB.cls mk = .method mk := by rw [Launch.admits_selectMethod X.admits]; exact q4
  obtain ⟨vm₁, X₁, hstep₁⟩ := X.invokevirtual hexec hown hlink hnamed hmethM hstM hkP hkPi hy (a := b) (cell := cellB) hcell
    (fun z h => by rw [h] at hobj; cases hobj) hselP hmethM habM hkP hkPi (g := g) hg (argsL := argsL) (rest := rest) (hlen _ hsigM) hstack hdg
  rcases hK m meth c ⟨T.setVm vm₁, locs, cells, slots⟩ { g with stack := rest } (.invokevirtual index) mk (Value.ref b :: argsL).toArray X₁ hg hsize hdg hW (X₁.named hnamed) (hpre vm₁ X₁.warmed) with ⟨v, B, X', hpost, hsteps⟩ | ⟨q, B, X', hpost, hsteps⟩
  · exact Or.inl ⟨v, vm₁, B, X₁.warmed, X', hpost, fun target h => hstep₁ _ fun acts => by rw [doInvoke_state]; exact hsteps.trans h⟩
  · exact Or.inr ⟨q, vm₁, B, X₁.warmed, X', hpost, hstep₁ _ fun acts => by rw [doInvoke_state]; exact hsteps⟩
theorem vx_callS (X : Stand p l e R s m args below meth c T locs cells slots) (hexec : p.tables.exec = Jvm.exec) {own : String} {index : Nat} {y : MethodName} {bytes : ByteArray} {maxL : Nat} {ret : Option FieldType}
    (hown : s.vm.findClass own = some m.cls) (hlink : (Cond.methodLink own index y).before args s = true) (hstat : (Cond.static y).before args s = true) (hinit : (Cond.initialized y.cls).before args s = true)
    (hcode : (Cond.code y bytes maxL ret).before args s = true) (hy : y.cls ≠ "java/lang/invoke/MethodHandle" ∧ y.cls ≠ "java/lang/invoke/VarHandle")
    {W9 : Nat} {Pre : Pt → Array Value → Prop} {Post : Pt → Array Value → Option Value → Pt → Prop} {PostX : Pt → Array Value → Addr → Pt → Prop} (hK : vx_Back l R p e below s args y 3 W9 Pre Post PostX)
    {g : JFrame} (hg : g.method = m) (hsize : g.locals.size = c.maxLocals) {argsL rest : List Value} (hlen : ∀ sig, parseMethodDescriptor y.desc = some sig → argsL.length = sig.parameters.length)
    (hstack : g.stack = argsL.reverse ++ rest) (hW : 2 * g.monitorRoom + (rest.map fun v => v.category).sum ≤ W9) (hdg : decode c.code g.pc = .ok (.invokestatic index, 3))
    (hpre : ∀ vm₁, s.WarmedH vm₁ → Pre ⟨T.setVm vm₁, locs, cells, slots⟩ argsL.toArray) :
    (∃ (v : Option Value) (vm₁ : Vm) (B : Pt), s.WarmedH vm₁ ∧ Stand p l e R s m args below meth c B.U B.locs B.cells B.slots ∧ Post ⟨T.setVm vm₁, locs, cells, slots⟩ argsL.toArray v B ∧
      ∀ target, Steps p.tables e below (B.U.setTop { g with pc := g.pc + 3, stack := v.toList ++ rest }) target → Steps p.tables e below (T.setTop g) target) ∨
    (∃ (q : Addr) (vm₁ : Vm) (B : Pt), s.WarmedH vm₁ ∧ Stand p l e R s m args below meth c B.U B.locs B.cells B.slots ∧ PostX ⟨T.setVm vm₁, locs, cells, slots⟩ argsL.toArray q B ∧
      Steps p.tables e below (T.setTop g) ((B.U.setTop { g with stack := rest }).pushFrame (.throwing q))) := by
  obtain ⟨mk, hnamed⟩ := Cond.code_named hcode
  obtain ⟨methM, cM, hmethM, -, -, -, -, -, -, hsigM⟩ := Cond.code_spec hnamed hcode
  have hstatic : methM.isStatic = true := Cond.static_spec hnamed hmethM hstat
  obtain ⟨kP, hkP, -⟩ := className_of_methodNamed hnamed
  have hinitP : kP.init = .initialized := Cond.initialized_spec (findClass_of_methodNamed hnamed) hkP hinit
  obtain ⟨vm₁, X₁, hstep₁⟩ := X.invokestatic hexec hown hlink hnamed hmethM hstatic hkP hinitP hy (g := g) hg (argsL := argsL) (rest := rest) (hlen _ hsigM) hstack hdg
  rcases hK m meth c ⟨T.setVm vm₁, locs, cells, slots⟩ { g with stack := rest } (.invokestatic index) mk argsL.toArray X₁ hg hsize hdg hW (X₁.named hnamed) (hpre vm₁ X₁.warmed) with ⟨v, B, X', hpost, hsteps⟩ | ⟨q, B, X', hpost, hsteps⟩
  · exact Or.inl ⟨v, vm₁, B, X₁.warmed, X', hpost, fun target h => hstep₁ _ fun acts => by rw [doInvoke_state]; exact hsteps.trans h⟩
  · exact Or.inr ⟨q, vm₁, B, X₁.warmed, X', hpost, hstep₁ _ fun acts => by rw [doInvoke_state]; exact hsteps⟩
end Calls
theorem vx_cls {s : State} {T : State} {vm₁ : Vm} {E : String} {k : ClassId} (hW : s.WarmedH vm₁) (h : (T.setVm vm₁).vm.findClass E = some k) : s.vm.findClass E = some k := by
  have h1 : vm₁.findClass E = some k := h
  rw [hW.alike.findClass] at h1
  exact h1
/-- the method's frame g, with q thrown over it -/
def vx_W (p : Program) (l : Launch) (e : Env) (R : Room) (s : State) (m : MethodId) (args : Array Value) (below : List Frame) (meth : Method) (c : Code) (H : Heap) (locs : List Loc) (cells slots : Nat) (Q : State → Prop) (g : JFrame) (q : Addr) : Prop :=
  ∀ T : State, T.heap = H → Stand p l e R s m args below meth c T locs cells slots → ∃ t, Steps p.tables e below ((T.setTop g).pushFrame (.throwing q)) t ∧ Q t
def vx_Run (p : Program) (l : Launch) (e : Env) (R : Room) (s : State) (m : MethodId) (args : Array Value) (below : List Frame) (meth : Method) (c : Code) (H : Heap) (locs : List Loc) (cells slots mc ms : Nat) (g : JFrame) (rest : List Value) (Qa : State → Outcome → State → Prop) (XC : String → State → State → Prop) (free : Addr → Prop) : Prop :=
  ∀ T : State, T.heap = H → Stand p l e R s m args below meth c T locs cells slots →
    (∃ (v : Option Value) (st₀ t T' : State) (L : List Loc), st₀.heap = H ∧ Stand p l e R s m args below meth c T' (locs ++ L) (cells + mc) (slots + ms) ∧ (∀ q ∈ L, free q.base) ∧ T'.heap = t.heap ∧ T'.vm = t.vm ∧ Qa st₀ (.returned v) t ∧
      Goes p e below T g T' { g with pc := g.pc + 3, stack := v.toList ++ rest }) ∨
    (∃ (q : Addr) (st₀ t T' : State) (L : List Loc) (E : String) (ce : Cell), st₀.heap = H ∧ Stand p l e R s m args below meth c T' (locs ++ L) (cells + mc) (slots + ms) ∧ (∀ z ∈ L, free z.base) ∧ T'.heap = t.heap ∧ T'.vm = t.vm ∧ XC E st₀ t ∧ t.heap[q]? = some ce ∧ ce.vm = .none ∧ s.vm.findClass E = some ce.cls ∧
      Steps p.tables e below (T.setTop g) ((T'.setTop { g with stack := rest }).pushFrame (.throwing q)))
def vx_X {S : Type} (px : S → Prop) (B : String → S → State → Prop) (A : Nat → Prop) : String → State → State → Prop := fun E st t => ∃ u : S, px u ∧ B E u t ∧ va_F A st t
section Runs
variable {p : Program} {l : Launch} {e : Env} {R : Room} {s : State} {m : MethodId} {args : Array Value} {below : List Frame} {meth : Method} {c : Code} {H : Heap} {locs : List Loc} {cells slots : Nat}
variable {y : MethodName} {bytes cc : ByteArray} {maxL nL mc ms n index : Nat} {ret : Option FieldType} {ws : List Cond} {rm : Room} {Pc : Array Value → State → Prop} {Qc : Array Value → State → Outcome → State → Prop} {XC : String → State → State → Prop} {free : Addr → Prop} {Ts : List Cond} {own C : String} {b : Addr} {As rest : List Value} {g : JFrame}
theorem vx_callBack (cb : CallB R s args own index y bytes maxL ret ws rm mc ms n) (hM : vx_Met l y ws rm Pc Qc XC mc ms free) (hbl : FrameBlind Pc) : vx_Back l R p e below s args y 3 8 (PreOf R mc ms Pc) (PostOf Qc mc ms free) (vx_Post XC mc ms free) := by
  obtain ⟨hrc, hrs, hfr, hlo, hws, hcw, -, hini, -⟩ := cb
  exact vx_back (bytes := bytes) (maxL := maxL) (ret := ret) hM hbl hrc hrs hfr hlo hws hcw (fun a' U hW => word_at hW (Or.inl (by first | rfl | simp [Cond.onTables, Cond.keeps, Cond.steady])) hini)
theorem vx_runV (S : CallFix p m c cc nL s args Ts own) (hM : vx_Met l y ws rm Pc Qc XC mc ms free) (cw : CallW R s args own C index y bytes maxL ret ws rm mc ms n) (hp : PreV s H C b Pc As)
    (hg : g.method = m) (hn : As.length = n) (hsize : g.locals.size = nL) (hstack : g.stack = As.reverse ++ .ref b :: rest) (hW : 2 * g.monitorRoom + (rest.map fun v => v.category).sum ≤ 8) (hdg : decode cc g.pc = .ok (.invokevirtual index, 3)) (hf : cells + mc ≤ R.cells ∧ slots + ms ≤ R.slots) :
    vx_Run p l e R s m args below meth c H locs cells slots mc ms g rest (Qc (Value.ref b :: As).toArray) XC free := by
  have hK : vx_Back l R p e below s args y 3 8 (PreOf R mc ms Pc) (PostOf Qc mc ms free) (vx_Post XC mc ms free) := vx_callBack cw.1 hM hp.1
  obtain ⟨⟨-, -, -, -, -, -, hcode, -, hy, hlen, hl⟩, hin, hse⟩ := cw
  obtain ⟨hx, hb, hml, ho, -⟩ := S
  obtain ⟨-, ⟨cellB, hcB, hoB, hclB⟩, hPc⟩ := hp
  intro T hT X
  rcases vx_callV X hx (C := C) (bytes := bytes) (maxL := maxL) (ret := ret) ho hl hin hse hcode hy hK (by rw [hT]; exact hcB) hoB hclB hg (hsize.trans hml.symm) (argsL := As) (rest := rest) (fun sig h => hn.trans (hlen sig h)) hstack hW (by rw [hb]; exact hdg)
    (fun vm₁ hW₁ => ⟨hf.1, hf.2, hPc (T.setVm vm₁) hT hW₁⟩) with ⟨v, vm₁, ⟨U', l2, c2, s2⟩, hW₁, X', ⟨g', mk, t, L, e1, e2, hq, h1, hL, h2, h3⟩, st⟩ | ⟨q, vm₁, ⟨U', l2, c2, s2⟩, hW₁, X', ⟨g', mk, t, L, E, ce, e1, e2, hq, hce, hcv, hcl, h1, hL, h2, h3⟩, st⟩
  · dsimp only [Pt.U, Pt.locs, Pt.cells, Pt.slots] at X' e1 e2 h1 h2 h3 st
    subst h1; subst h2; subst h3
    exact Or.inl ⟨v, (T.setVm vm₁).calling g' mk (Value.ref b :: As).toArray, t, U', L, hT, X', hL, e1, e2, hq, st⟩
  · dsimp only [Pt.U, Pt.locs, Pt.cells, Pt.slots] at X' e1 e2 h1 h2 h3 st hcl
    subst h1; subst h2; subst h3
    exact Or.inr ⟨q, (T.setVm vm₁).calling g' mk (Value.ref b :: As).toArray, t, U', L, E, ce, hT, X', hL, e1, e2, hq, hce, hcv, vx_cls hW₁ hcl, st⟩
theorem vx_runS (S : CallFix p m c cc nL s args Ts own) (hM : vx_Met l y ws rm Pc Qc XC mc ms free) (cw : CallB R s args own index y bytes maxL ret ws rm mc ms n ∧ (Cond.static y).before args s = true) (hp : PreS s H Pc As)
    (hg : g.method = m) (hn : As.length = n) (hsize : g.locals.size = nL) (hstack : g.stack = As.reverse ++ rest) (hW : 2 * g.monitorRoom + (rest.map fun v => v.category).sum ≤ 8) (hdg : decode cc g.pc = .ok (.invokestatic index, 3)) (hf : cells + mc ≤ R.cells ∧ slots + ms ≤ R.slots) :
    vx_Run p l e R s m args below meth c H locs cells slots mc ms g rest (Qc As.toArray) XC free := by
  have hK : vx_Back l R p e below s args y 3 8 (PreOf R mc ms Pc) (PostOf Qc mc ms free) (vx_Post XC mc ms free) := vx_callBack cw.1 hM hp.1
  obtain ⟨⟨-, -, -, -, -, -, hcode, hini, hy, hlen, hl⟩, hstt⟩ := cw
  obtain ⟨hx, hb, hml, ho, -⟩ := S
  intro T hT X
  rcases vx_callS X hx (bytes := bytes) (maxL := maxL) (ret := ret) ho hl hstt hini hcode hy hK hg (hsize.trans hml.symm) (argsL := As) (rest := rest) (fun sig h => hn.trans (hlen sig h)) hstack hW (by rw [hb]; exact hdg)
    (fun vm₁ hW₁ => ⟨hf.1, hf.2, hp.2 (T.setVm vm₁) hT hW₁⟩) with ⟨v, vm₁, ⟨U', l2, c2, s2⟩, hW₁, X', ⟨g', mk, t, L, e1, e2, hq, h1, hL, h2, h3⟩, st⟩ | ⟨q, vm₁, ⟨U', l2, c2, s2⟩, hW₁, X', ⟨g', mk, t, L, E, ce, e1, e2, hq, hce, hcv, hcl, h1, hL, h2, h3⟩, st⟩
  · dsimp only [Pt.U, Pt.locs, Pt.cells, Pt.slots] at X' e1 e2 h1 h2 h3 st
    subst h1; subst h2; subst h3
    exact Or.inl ⟨v, (T.setVm vm₁).calling g' mk As.toArray, t, U', L, hT, X', hL, e1, e2, hq, st⟩
  · dsimp only [Pt.U, Pt.locs, Pt.cells, Pt.slots] at X' e1 e2 h1 h2 h3 st hcl
    subst h1; subst h2; subst h3
    exact Or.inr ⟨q, (T.setVm vm₁).calling g' mk As.toArray, t, U', L, E, ce, hT, X', hL, e1, e2, hq, hce, hcv, vx_cls hW₁ hcl, st⟩
end Runs
section Rows
variable {p : Program} {l : Launch} {e : Env} {R : Room} {s : State} {m : MethodId} {args : Array Value} {below : List Frame} {meth : Method} {c : Code} {H : Heap} {locs : List Loc} {cells slots : Nat} {Q : State → Prop}
variable {mc ms : Nat} {free : Addr → Prop} {A0 A1 : Nat → Prop} {H0 : Heap} {a : Array Value} {pc : Nat} {ls : Array Slot} {st0 rest : List Value}
theorem vx_keep {st₀ t T' : State} {L : List Loc} (h0 : st₀.heap = H) (e1 : T'.heap = t.heap) (hS : va_S A0 H0 H locs) (hA : ∀ q, q < H.size → A1 q → A0 q) (hf : ∀ q, free q → A0 q) (hL : ∀ q ∈ L, free q.base) (hF : va_F A1 st₀ t) :
    H.size ≤ T'.heap.size ∧ (∀ q : Nat, q < H.size → ¬ A1 q → T'.heap[q]? = H[q]?) ∧ va_S A0 H0 T'.heap (locs ++ L) := by
  obtain ⟨hz, hk⟩ := hF
  rw [h0] at hz hk
  exact ⟨by rw [e1]; exact hz, fun q h1 h2 => by rw [e1]; exact hk q h1 h2,
    ⟨Nat.le_trans hS.1 (by rw [e1]; exact hz), fun q h1 h2 => by rw [e1, hk q (Nat.lt_of_lt_of_le h1 hS.1) (fun z => h2 (hA q (Nat.lt_of_lt_of_le h1 hS.1) z))]; exact hS.2.1 q h1 h2, fun q hq => by
      rcases List.mem_append.mp hq with h | h
      · exact hS.2.2 q h
      · exact hf _ (hL q h)⟩⟩
theorem vx_calli {S SX : Type} {post : Int32 → S → Prop} {px : SX → Prop} {B : S → State → Prop} {BX : String → SX → State → Prop} {AX : Nat → Prop} (hr : vx_Run p l e R s m args below meth c H locs cells slots mc ms (F0 m pc ls st0) rest (va_Qi post B A1 a) (vx_X px BX AX) free) (hS : va_S A0 H0 H locs) (hA : ∀ q, q < H.size → A1 q → A0 q) (hf : ∀ q, free q → A0 q) (hAX : ∀ q, q < H.size → AX q → A0 q)
    (kx : ∀ (E : String) (ce : Cell) (q9 : Addr) (u : SX) (t : State) (H1 : Heap) (locs1 : List Loc), t.heap = H1 → s.vm.Alike t.vm → px u → BX E u t → H.size ≤ H1.size → (∀ q : Nat, q < H.size → ¬ AX q → H1[q]? = H[q]?) → va_S A0 H0 H1 locs1 → H1[q9]? = some ce → ce.vm = .none → s.vm.findClass E = some ce.cls → vx_W p l e R s m args below meth c H1 locs1 (cells + mc) (slots + ms) Q (F0 m pc ls rest) q9)
    (kk : ∀ (r : Int32) (u : S) (t : State) (H1 : Heap) (locs1 : List Loc), t.heap = H1 → s.vm.Alike t.vm → post r u → B u t → H.size ≤ H1.size → (∀ q : Nat, q < H.size → ¬ A1 q → H1[q]? = H[q]?) → va_S A0 H0 H1 locs1 → W p l e R s m args below meth c H1 locs1 (cells + mc) (slots + ms) Q (F0 m (pc + 3) ls (.int r :: rest))) : W p l e R s m args below meth c H locs cells slots Q (F0 m pc ls st0) := by
  intro T hT X
  rcases hr T hT X with ⟨v, st₀, t, T', L, h0, X', hL, e1, e2, ⟨⟨r, u, hv, hp, hb⟩, hF⟩, st⟩ | ⟨q, st₀, t, T', L, E, ce, h0, X', hL, e1, e2, ⟨u, hp, hb, hF⟩, hce, hcv, hcl, st⟩
  · cases hv
    obtain ⟨k1, k2, k3⟩ := vx_keep h0 e1 hS hA hf hL hF
    obtain ⟨t2, a1, b1⟩ := kk r u t T'.heap (locs ++ L) e1.symm (by rw [← e2]; exact X'.warmed.alike) hp hb k1 k2 k3 T' rfl X'
    exact ⟨t2, st t2 a1, b1⟩
  · obtain ⟨k1, k2, k3⟩ := vx_keep h0 e1 hS hAX hf hL hF
    obtain ⟨t2, a1, b1⟩ := kx E ce q u t T'.heap (locs ++ L) e1.symm (by rw [← e2]; exact X'.warmed.alike) hp hb k1 k2 k3 (by rw [e1]; exact hce) hcv hcl T' rfl X'
    exact ⟨t2, st.trans a1, b1⟩
theorem vx_calll {S SX : Type} {post : Int64 → S → Prop} {px : SX → Prop} {B : S → State → Prop} {BX : String → SX → State → Prop} {AX : Nat → Prop} (hr : vx_Run p l e R s m args below meth c H locs cells slots mc ms (F0 m pc ls st0) rest (va_Ql post B A1 a) (vx_X px BX AX) free) (hS : va_S A0 H0 H locs) (hA : ∀ q, q < H.size → A1 q → A0 q) (hf : ∀ q, free q → A0 q) (hAX : ∀ q, q < H.size → AX q → A0 q)
    (kx : ∀ (E : String) (ce : Cell) (q9 : Addr) (u : SX) (t : State) (H1 : Heap) (locs1 : List Loc), t.heap = H1 → s.vm.Alike t.vm → px u → BX E u t → H.size ≤ H1.size → (∀ q : Nat, q < H.size → ¬ AX q → H1[q]? = H[q]?) → va_S A0 H0 H1 locs1 → H1[q9]? = some ce → ce.vm = .none → s.vm.findClass E = some ce.cls → vx_W p l e R s m args below meth c H1 locs1 (cells + mc) (slots + ms) Q (F0 m pc ls rest) q9)
    (kk : ∀ (r : Int64) (u : S) (t : State) (H1 : Heap) (locs1 : List Loc), t.heap = H1 → s.vm.Alike t.vm → post r u → B u t → H.size ≤ H1.size → (∀ q : Nat, q < H.size → ¬ A1 q → H1[q]? = H[q]?) → va_S A0 H0 H1 locs1 → W p l e R s m args below meth c H1 locs1 (cells + mc) (slots + ms) Q (F0 m (pc + 3) ls (.long r :: rest))) : W p l e R s m args below meth c H locs cells slots Q (F0 m pc ls st0) := by
  intro T hT X
  rcases hr T hT X with ⟨v, st₀, t, T', L, h0, X', hL, e1, e2, ⟨⟨r, u, hv, hp, hb⟩, hF⟩, st⟩ | ⟨q, st₀, t, T', L, E, ce, h0, X', hL, e1, e2, ⟨u, hp, hb, hF⟩, hce, hcv, hcl, st⟩
  · cases hv
    obtain ⟨k1, k2, k3⟩ := vx_keep h0 e1 hS hA hf hL hF
    obtain ⟨t2, a1, b1⟩ := kk r u t T'.heap (locs ++ L) e1.symm (by rw [← e2]; exact X'.warmed.alike) hp hb k1 k2 k3 T' rfl X'
    exact ⟨t2, st t2 a1, b1⟩
  · obtain ⟨k1, k2, k3⟩ := vx_keep h0 e1 hS hAX hf hL hF
    obtain ⟨t2, a1, b1⟩ := kx E ce q u t T'.heap (locs ++ L) e1.symm (by rw [← e2]; exact X'.warmed.alike) hp hb k1 k2 k3 (by rw [e1]; exact hce) hcv hcl T' rfl X'
    exact ⟨t2, st.trans a1, b1⟩
theorem vx_callf {S SX : Type} {post : UInt32 → S → Prop} {px : SX → Prop} {B : S → State → Prop} {BX : String → SX → State → Prop} {AX : Nat → Prop} (hr : vx_Run p l e R s m args below meth c H locs cells slots mc ms (F0 m pc ls st0) rest (va_Qf post B A1 a) (vx_X px BX AX) free) (hS : va_S A0 H0 H locs) (hA : ∀ q, q < H.size → A1 q → A0 q) (hf : ∀ q, free q → A0 q) (hAX : ∀ q, q < H.size → AX q → A0 q)
    (kx : ∀ (E : String) (ce : Cell) (q9 : Addr) (u : SX) (t : State) (H1 : Heap) (locs1 : List Loc), t.heap = H1 → s.vm.Alike t.vm → px u → BX E u t → H.size ≤ H1.size → (∀ q : Nat, q < H.size → ¬ AX q → H1[q]? = H[q]?) → va_S A0 H0 H1 locs1 → H1[q9]? = some ce → ce.vm = .none → s.vm.findClass E = some ce.cls → vx_W p l e R s m args below meth c H1 locs1 (cells + mc) (slots + ms) Q (F0 m pc ls rest) q9)
    (kk : ∀ (r : UInt32) (u : S) (t : State) (H1 : Heap) (locs1 : List Loc), t.heap = H1 → s.vm.Alike t.vm → post r u → B u t → H.size ≤ H1.size → (∀ q : Nat, q < H.size → ¬ A1 q → H1[q]? = H[q]?) → va_S A0 H0 H1 locs1 → W p l e R s m args below meth c H1 locs1 (cells + mc) (slots + ms) Q (F0 m (pc + 3) ls (.float r :: rest))) : W p l e R s m args below meth c H locs cells slots Q (F0 m pc ls st0) := by
  intro T hT X
  rcases hr T hT X with ⟨v, st₀, t, T', L, h0, X', hL, e1, e2, ⟨⟨r, u, hv, hp, hb⟩, hF⟩, st⟩ | ⟨q, st₀, t, T', L, E, ce, h0, X', hL, e1, e2, ⟨u, hp, hb, hF⟩, hce, hcv, hcl, st⟩
  · cases hv
    obtain ⟨k1, k2, k3⟩ := vx_keep h0 e1 hS hA hf hL hF
    obtain ⟨t2, a1, b1⟩ := kk r u t T'.heap (locs ++ L) e1.symm (by rw [← e2]; exact X'.warmed.alike) hp hb k1 k2 k3 T' rfl X'
    exact ⟨t2, st t2 a1, b1⟩
  · obtain ⟨k1, k2, k3⟩ := vx_keep h0 e1 hS hAX hf hL hF
    obtain ⟨t2, a1, b1⟩ := kx E ce q u t T'.heap (locs ++ L) e1.symm (by rw [← e2]; exact X'.warmed.alike) hp hb k1 k2 k3 (by rw [e1]; exact hce) hcv hcl T' rfl X'
    exact ⟨t2, st.trans a1, b1⟩
theorem vx_calld {S SX : Type} {post : UInt64 → S → Prop} {px : SX → Prop} {B : S → State → Prop} {BX : String → SX → State → Prop} {AX : Nat → Prop} (hr : vx_Run p l e R s m args below meth c H locs cells slots mc ms (F0 m pc ls st0) rest (va_Qd post B A1 a) (vx_X px BX AX) free) (hS : va_S A0 H0 H locs) (hA : ∀ q, q < H.size → A1 q → A0 q) (hf : ∀ q, free q → A0 q) (hAX : ∀ q, q < H.size → AX q → A0 q)
    (kx : ∀ (E : String) (ce : Cell) (q9 : Addr) (u : SX) (t : State) (H1 : Heap) (locs1 : List Loc), t.heap = H1 → s.vm.Alike t.vm → px u → BX E u t → H.size ≤ H1.size → (∀ q : Nat, q < H.size → ¬ AX q → H1[q]? = H[q]?) → va_S A0 H0 H1 locs1 → H1[q9]? = some ce → ce.vm = .none → s.vm.findClass E = some ce.cls → vx_W p l e R s m args below meth c H1 locs1 (cells + mc) (slots + ms) Q (F0 m pc ls rest) q9)
    (kk : ∀ (r : UInt64) (u : S) (t : State) (H1 : Heap) (locs1 : List Loc), t.heap = H1 → s.vm.Alike t.vm → post r u → B u t → H.size ≤ H1.size → (∀ q : Nat, q < H.size → ¬ A1 q → H1[q]? = H[q]?) → va_S A0 H0 H1 locs1 → W p l e R s m args below meth c H1 locs1 (cells + mc) (slots + ms) Q (F0 m (pc + 3) ls (.double r :: rest))) : W p l e R s m args below meth c H locs cells slots Q (F0 m pc ls st0) := by
  intro T hT X
  rcases hr T hT X with ⟨v, st₀, t, T', L, h0, X', hL, e1, e2, ⟨⟨r, u, hv, hp, hb⟩, hF⟩, st⟩ | ⟨q, st₀, t, T', L, E, ce, h0, X', hL, e1, e2, ⟨u, hp, hb, hF⟩, hce, hcv, hcl, st⟩
  · cases hv
    obtain ⟨k1, k2, k3⟩ := vx_keep h0 e1 hS hA hf hL hF
    obtain ⟨t2, a1, b1⟩ := kk r u t T'.heap (locs ++ L) e1.symm (by rw [← e2]; exact X'.warmed.alike) hp hb k1 k2 k3 T' rfl X'
    exact ⟨t2, st t2 a1, b1⟩
  · obtain ⟨k1, k2, k3⟩ := vx_keep h0 e1 hS hAX hf hL hF
    obtain ⟨t2, a1, b1⟩ := kx E ce q u t T'.heap (locs ++ L) e1.symm (by rw [← e2]; exact X'.warmed.alike) hp hb k1 k2 k3 (by rw [e1]; exact hce) hcv hcl T' rfl X'
    exact ⟨t2, st.trans a1, b1⟩
theorem vx_callv {S SX : Type} {post : S → Prop} {px : SX → Prop} {B : S → State → Prop} {BX : String → SX → State → Prop} {AX : Nat → Prop} (hr : vx_Run p l e R s m args below meth c H locs cells slots mc ms (F0 m pc ls st0) rest (va_Qv post B A1 a) (vx_X px BX AX) free) (hS : va_S A0 H0 H locs) (hA : ∀ q, q < H.size → A1 q → A0 q) (hf : ∀ q, free q → A0 q) (hAX : ∀ q, q < H.size → AX q → A0 q)
    (kx : ∀ (E : String) (ce : Cell) (q9 : Addr) (u : SX) (t : State) (H1 : Heap) (locs1 : List Loc), t.heap = H1 → s.vm.Alike t.vm → px u → BX E u t → H.size ≤ H1.size → (∀ q : Nat, q < H.size → ¬ AX q → H1[q]? = H[q]?) → va_S A0 H0 H1 locs1 → H1[q9]? = some ce → ce.vm = .none → s.vm.findClass E = some ce.cls → vx_W p l e R s m args below meth c H1 locs1 (cells + mc) (slots + ms) Q (F0 m pc ls rest) q9)
    (kk : ∀ (u : S) (t : State) (H1 : Heap) (locs1 : List Loc), t.heap = H1 → s.vm.Alike t.vm → post u → B u t → H.size ≤ H1.size → (∀ q : Nat, q < H.size → ¬ A1 q → H1[q]? = H[q]?) → va_S A0 H0 H1 locs1 → W p l e R s m args below meth c H1 locs1 (cells + mc) (slots + ms) Q (F0 m (pc + 3) ls (rest))) : W p l e R s m args below meth c H locs cells slots Q (F0 m pc ls st0) := by
  intro T hT X
  rcases hr T hT X with ⟨v, st₀, t, T', L, h0, X', hL, e1, e2, ⟨⟨u, hv, hp, hb⟩, hF⟩, st⟩ | ⟨q, st₀, t, T', L, E, ce, h0, X', hL, e1, e2, ⟨u, hp, hb, hF⟩, hce, hcv, hcl, st⟩
  · cases hv
    obtain ⟨k1, k2, k3⟩ := vx_keep h0 e1 hS hA hf hL hF
    obtain ⟨t2, a1, b1⟩ := kk u t T'.heap (locs ++ L) e1.symm (by rw [← e2]; exact X'.warmed.alike) hp hb k1 k2 k3 T' rfl X'
    exact ⟨t2, st t2 a1, b1⟩
  · obtain ⟨k1, k2, k3⟩ := vx_keep h0 e1 hS hAX hf hL hF
    obtain ⟨t2, a1, b1⟩ := kx E ce q u t T'.heap (locs ++ L) e1.symm (by rw [← e2]; exact X'.warmed.alike) hp hb k1 k2 k3 (by rw [e1]; exact hce) hcv hcl T' rfl X'
    exact ⟨t2, st.trans a1, b1⟩
/-- caught by the row x of this method's table; the rows ahead don't take it -/
theorem vx_catch {own name : String} {E : String} {ce : Cell} {q : Addr} (hown : s.vm.findClass own = some m.cls) (pre : List ExceptionTableEntry) (x : ExceptionTableEntry) (suf : List ExceptionTableEntry) (hsplit : c.exceptionTable.toList = pre ++ x :: suf)
    (hpass : ∀ z ∈ pre, covers z pc = false ∨ (z.catchType ≠ 0 ∧ ∃ nm : String, (Cond.classLink own z.catchType nm).before args s = true ∧ va_Nc E nm s)) (hx : covers x pc = true) (h0 : x.catchType ≠ 0)
    (hlink : (Cond.classLink own x.catchType name).before args s = true) (hcast : (Cond.castable E name).before args s = true) (hcell : H[q]? = some ce) (hv : ce.vm = .none) (hcl : s.vm.findClass E = some ce.cls)
    (kk : W p l e R s m args below meth c H locs cells slots Q (F0 m x.handlerPc ls [.ref q])) : vx_W p l e R s m args below meth c H locs cells slots Q (F0 m pc ls rest) q := by
  intro T hT X
  have hpl : e.platform.magicAccessors = ({} : Platform).magicAccessors := by rw [X.admits.platform]
  obtain ⟨c3, c4, hc3, hc4, hasg⟩ := Cond.castable_spec hcast
  cases Option.some.inj (hc3.symm.trans hcl)
  obtain ⟨c5, hc5, hcl5⟩ := Cond.classLink_spec hown hlink e.platform hpl
  cases Option.some.inj (hc4.symm.trans hc5)
  obtain ⟨vm', X', st⟩ := X.thenCaughtThrough q (g := F0 m pc ls rest) rfl (Steps.refl _) (by rw [hT]; exact hcell) (by rw [hv]; rfl) (by obtain ⟨k9, h9, -⟩ := Vm.findClass_spec hcl; exact ⟨k9, h9⟩) pre x suf hsplit
    (fun z hz => by
      rcases hpass z hz with h | ⟨hz0, nm, hl1, hn1⟩
      · exact Or.inl h
      · obtain ⟨c6, hc6, hcl6⟩ := Cond.classLink_spec hown hl1 e.platform hpl
        obtain ⟨a8, b8, h1, h2, h3⟩ := hn1
        cases Option.some.inj (h1.symm.trans hcl)
        cases Option.some.inj (h2.symm.trans hc6)
        exact Or.inr ⟨hz0, _, hcl6, h3⟩) hx (Or.inr ⟨h0, c4, hcl5, hasg⟩)
  obtain ⟨t, a1, b1⟩ := kk (T.setVm vm') hT X'
  exact ⟨t, st.trans a1, b1⟩
end Rows
section Ends
variable {p : Program} {l : Launch} {e : Env} {R : Room} {s : State} {m : MethodId} {args : Array Value} {below : List Frame} {meth : Method} {c : Code} {H : Heap} {locs : List Loc} {cells slots : Nat} {Q : State → Prop}
variable {mc ms : Nat} {free : Addr → Prop} {A0 A1 : Nat → Prop} {H0 : Heap} {a : Array Value} {ls : Array Slot} {st0 rest : List Value}
variable {Qc : Array Value → State → Outcome → State → Prop} {XC : String → State → State → Prop}
/-- what a body that may throw owes at its end -/
def vx_MQ (below : List Frame) (Qc : Array Value → State → Outcome → State → Prop) (XC : String → State → State → Prop) (a : Array Value) (s : State) (mc ms : Nat) (free : Addr → Prop) : State → Prop := fun t =>
  ∃ o, t.status = .running ∧ Ended t below o ∧ vx_Q Qc XC mc ms free a s o t
theorem vx_ret {g : JFrame} {mc ms : Nat} (k : W p l e R s m args below meth c H locs cells slots (MQ below Qc args s mc ms free) g) : W p l e R s m args below meth c H locs cells slots (vx_MQ below Qc XC args s mc ms free) g := by
  intro T hT X
  obtain ⟨t, a1, o, b1, b2, b3, b4⟩ := k T hT X
  exact ⟨t, a1, o, b1, b2, Or.inl ⟨b3, b4⟩⟩
/-- not caught here: it goes on to the caller -/
theorem vx_widen {g : JFrame} {q : Addr} {k n : Nat} (h1 : cells ≤ k) (h2 : slots ≤ n) (kk : vx_W p l e R s m args below meth c H locs k n Q g q) : vx_W p l e R s m args below meth c H locs cells slots Q g q := fun T hT X => kk T hT (stand_widen X h1 h2)
theorem vx_out {pc : Nat} {E : String} {ce : Cell} {q : Addr} {mc ms : Nat} (hout : ∀ x ∈ c.exceptionTable.toList, covers x pc = false) (hlocks : meth.locks = false) (hcell : H[q]? = some ce) (hv : ce.vm = .none) (hcl : s.vm.findClass E = some ce.cls)
    (hx : ∀ t : State, t.heap = H → s.vm.Alike t.vm → XC E s t) (hf : ∀ z ∈ locs, free z.base) (hc : cells ≤ mc) (hs : slots ≤ ms) :
    vx_W p l e R s m args below meth c H locs cells slots (vx_MQ below Qc XC args s mc ms free) (F0 m pc ls rest) q := by
  intro T hT X
  obtain ⟨st1, hrun, hend, hW, hsm⟩ := X.leaveThrown q (g := F0 m pc ls rest) rfl rfl rfl hout hlocks
  have hcell9 : (T.setFrames (.throwing q :: below)).heap[q]? = some ce := by
    show T.heap[q]? = some ce
    rw [hT]; exact hcell
  exact ⟨_, st1, .threw q, hrun, hend, Or.inr ⟨q, rfl, E, ce, locs, hx _ hT hW.alike, hcell9, hv, hcl, hW, hsm.mono hc hs, hf⟩⟩
theorem vx_frame {U : State} {k n : Nat} (h : s.sameButNew ({ U with vm := s.vm } : State) locs k n) : s.heap.size ≤ U.heap.size ∧ ∀ q : Nat, q < s.heap.size → (∀ z ∈ locs, z.base ≠ q) → U.heap[q]? = s.heap[q]? := by
  obtain ⟨-, h2, -, -, -, h6⟩ := h
  refine ⟨h2, fun q hq hz => ?_⟩
  obtain ⟨c9, e1, e2, e3, e4⟩ := h6 q _ (Array.getElem?_eq_getElem hq)
  have hs : c9.slots = (s.heap[q]).slots := Array.ext_getElem? fun i => e4 i fun hm => hz _ hm rfl
  have h9 : c9 = s.heap[q] := by
    rw [hs] at e2
    exact e2
  have e5 : U.heap[q]? = some c9 := e1
  rw [e5, h9, Array.getElem?_eq_getElem hq]
/-- the words of a throw but the four that speak of the heap -/
def vx_no (w : Cond) : Bool := decide (w ≠ .isRef (.static Bundle.tN "UNASSIGNED_STACK" Bundle.steD)) && decide (w ≠ .isRef (.static Bundle.tN "SUPPRESSED_SENTINEL" Bundle.listD)) && decide (w ≠ .laysStatic Bundle.tN "UNASSIGNED_STACK" Bundle.steD) && decide (w ≠ .laysStatic Bundle.tN "SUPPRESSED_SENTINEL" Bundle.listD)
def vx_at0 (own : String) (ic : Nat) (X : String) (names : List String) : List Cond := (Bundle.ownAtoms0 own ic X names).filter vx_no
def vx_atS (own : String) (ic : Nat) (X : String) (names : List String) : List Cond := (Bundle.ownAtoms own ic X names).filter vx_no
/-- a word that the tables alone decide, or a good one -/
def vx_ot (w : Cond) : Bool := w.onTables || goodWord w
theorem vx_ot_at {args a' : Array Value} {s U : State} {w : Cond} (hW : s.WarmedH U.vm) (hvm : s.vm = U.vm) (hg : vx_ot w = true) (h : w.before args s = true) : w.before a' U = true := by
  simp only [vx_ot, Bool.or_eq_true] at hg
  rcases hg with hg | hg
  · exact va_tabs hg hvm h
  · exact word_at hW (good_of_word hg) h
/-- a list's words: the good ones out of the method's own list, the others by premises of their own -/
theorem vx_hat {args : Array Value} {s : State} {L B : List Cond} (h1 : ∀ w ∈ L.filter goodWord, w.before args s = true) (h2 : ∀ w ∈ L.filter (fun w => !goodWord w), w ∈ B) (h3 : ∀ w ∈ B, w.before args s = true) : ∀ w ∈ L, w.before args s = true := by
  intro w hw
  by_cases g : goodWord w = true
  · exact h1 w (List.mem_filter.mpr ⟨hw, g⟩)
  · refine h3 w (h2 w (List.mem_filter.mpr ⟨hw, ?_⟩))
    show (!goodWord w) = true
    cases hgw : goodWord w
    · rfl
    · exact absurd hgw g
theorem vx_c {args : Array Value} {s : State} {w : Cond} {B : List Cond} (h : w.before args s = true) (t : ∀ w ∈ B, w.before args s = true) : ∀ w' ∈ w :: B, w'.before args s = true := fun w' h' => (List.mem_cons.mp h').elim (fun e => by rw [e]; exact h) (t w')
theorem vx_n {args : Array Value} {s : State} : ∀ w ∈ ([] : List Cond), w.before args s = true := fun _ h => nomatch h
theorem vx_own {args : Array Value} {s : State} {L : List Cond} (h1 : ∀ w ∈ L.filter vx_no, w.before args s = true)
    (hU : (Cond.isRef (.static Bundle.tN "UNASSIGNED_STACK" Bundle.steD)).before args s = true) (hN : (Cond.isRef (.static Bundle.tN "SUPPRESSED_SENTINEL" Bundle.listD)).before args s = true)
    (lU : (Cond.laysStatic Bundle.tN "UNASSIGNED_STACK" Bundle.steD).before args s = true) (lN : (Cond.laysStatic Bundle.tN "SUPPRESSED_SENTINEL" Bundle.listD).before args s = true) : ∀ w ∈ L, w.before args s = true := by
  intro w hw
  by_cases e1 : w = .isRef (.static Bundle.tN "UNASSIGNED_STACK" Bundle.steD)
  · rw [e1]; exact hU
  · by_cases e2 : w = .isRef (.static Bundle.tN "SUPPRESSED_SENTINEL" Bundle.listD)
    · rw [e2]; exact hN
    · by_cases e3 : w = .laysStatic Bundle.tN "UNASSIGNED_STACK" Bundle.steD
      · rw [e3]; exact lU
      · by_cases e4 : w = .laysStatic Bundle.tN "SUPPRESSED_SENTINEL" Bundle.listD
        · rw [e4]; exact lN
        · exact h1 w (List.mem_filter.mpr ⟨hw, by unfold vx_no; rw [decide_eq_true e1, decide_eq_true e2, decide_eq_true e3, decide_eq_true e4]; rfl⟩)
/-- where a static field lies, its class's statics cell in H -/
def vx_L (C n d : String) (A : Nat → Prop) (U : State) (H : Heap) : Prop := ∃ (c : ClassId) (k : Class) (i : Nat) (f : Field) (a : Nat) (cell : Cell), U.vm.findClass C = some c ∧ U.fieldFound? C n d = some (c, k, i, f) ∧ f.isStatic = true ∧ k.statics = some a ∧ H[a]? = some cell ∧ cell.vm.isStatics = true ∧ cell.cls = c ∧ f.slot < cell.slots.size ∧ k.staticTypes[f.slot]? = some f.type ∧ ¬ A a
theorem vx_L.moved {C n d : String} {A : Nat → Prop} {u U : State} {H : Heap} (hvm : u.vm.Alike U.vm) (h : vx_L C n d A u H) : vx_L C n d A U H := by
  obtain ⟨c, k, i, f, a, cell, h1, h2, h3, h4, h5, h6, h7, h8, h9, h10⟩ := h
  obtain ⟨k', hi', he⟩ := State.fieldFound?_setVm hvm h2
  exact ⟨c, k', i, f, a, cell, by rw [hvm.findClass]; exact h1, hi', h3, by rw [he]; exact h4, h5, h6, h7, h8, by rw [he]; exact h9, h10⟩
theorem vx_L.kept {C n d : String} {A : Nat → Prop} {U : State} {H H1 : Heap} (h : vx_L C n d A U H) (hq : ∀ a : Nat, a < H.size → ¬ A a → H1[a]? = H[a]?) : vx_L C n d A U H1 := by
  obtain ⟨c, k, i, f, a, cell, h1, h2, h3, h4, h5, h6, h7, h8, h9, h10⟩ := h
  exact ⟨c, k, i, f, a, cell, h1, h2, h3, h4, by rw [hq a (Array.getElem?_eq_some_iff.mp h5).1 h10]; exact h5, h6, h7, h8, h9, h10⟩
theorem vx_L.narrow {C n d : String} {A B : Nat → Prop} {U : State} {H : Heap} (h : vx_L C n d A U H) (hAB : ∀ q, B q → A q) : vx_L C n d B U H := by
  obtain ⟨c, k, i, f, a, cell, h1, h2, h3, h4, h5, h6, h7, h8, h9, h10⟩ := h
  exact ⟨c, k, i, f, a, cell, h1, h2, h3, h4, h5, h6, h7, h8, h9, fun z => h10 (hAB _ z)⟩
theorem vx_L.word {C n d : String} {A : Nat → Prop} {s : State} {args : Array Value} (h : vx_L C n d A s s.heap) : (Cond.laysStatic C n d).before args s = true := by
  obtain ⟨c, k, i, f, a, cell, h1, h2, h3, h4, h5, h6, h7, h8, h9, -⟩ := h
  show (Cond.laysStatic C n d).holds args s none s [] = true
  exact Cond.laysStatic_of h1 h2 h3 h4 h5 h6 h7 h8 h9
/-- .. and what it holds: null or some reference -/
def vx_Zq (C n d : String) (A : Nat → Prop) (U : State) (H : Heap) : Prop := va_Zq C n d A U H ∧ vx_L C n d A U H
theorem vx_Zq.moved {C n d : String} {A : Nat → Prop} {u U : State} {H : Heap} (hvm : u.vm.Alike U.vm) (h : vx_Zq C n d A u H) : vx_Zq C n d A U H := ⟨va_Zq.moved hvm h.1, vx_L.moved hvm h.2⟩
theorem vx_Zq.kept {C n d : String} {A : Nat → Prop} {U : State} {H H1 : Heap} (h : vx_Zq C n d A U H) (hq : ∀ a : Nat, a < H.size → ¬ A a → H1[a]? = H[a]?) : vx_Zq C n d A U H1 := ⟨va_Zq.kept h.1 hq, vx_L.kept h.2 hq⟩
theorem vx_Zq.narrow {C n d : String} {A B : Nat → Prop} {U : State} {H : Heap} (h : vx_Zq C n d A U H) (hAB : ∀ q, B q → A q) : vx_Zq C n d B U H := ⟨va_Zq.narrow h.1 hAB, vx_L.narrow h.2 hAB⟩
theorem vx_Zqof {args : Array Value} {s : State} {C n d : String} {A : Nat → Prop} (hl : (Cond.laysStatic C n d).before args s = true) (hini : (Cond.initialized C).before args s = true) (h : (Cond.isRef (.static C n d)).before args s = true) (hA : ∀ a : Nat, a < s.heap.size → ¬ A a) : vx_Zq C n d A s s.heap := by
  refine ⟨va_Zqof hl hini h hA, ?_⟩
  obtain ⟨c, k, i, f, a, cell, h1, h2, h3, h4, h5, h6, h7, h8, h9⟩ := Cond.laysStatic_spec hl
  exact ⟨c, k, i, f, a, cell, h1, h2, h3, h4, h5, h6, h7, h8, h9, hA a (Array.getElem?_eq_some_iff.mp h5).1⟩
theorem vx_isRef {C n d : String} {v : Value} {A : Nat → Prop} {s : State} {args : Array Value} (h : va_Z C n d v A s s.heap) (hv : v.isRef = true) : (Cond.isRef (.static C n d)).before args s = true := by
  obtain ⟨cf, kf, fi, f, a, cell, h1, h2, h3, h4, h5, h6, h7, -⟩ := h
  have he : (Term.static C n d).eval args s none [] s = some v := by
    simp [Term.eval, State.fieldNamed?, h1, h2, h4, h5, h6, h7]
  simp only [Cond.before, Cond.holds, Cond.value, he]
  cases v <;> simp_all [Value.isRef]
theorem vx_isRefq {C n d : String} {A : Nat → Prop} {s : State} {args : Array Value} (h : va_Zq C n d A s s.heap) : (Cond.isRef (.static C n d)).before args s = true := by
  rcases h with h | ⟨t, h⟩
  · exact vx_isRef h rfl
  · exact vx_isRef h rfl
/-- the same frame, seen from here: as if the method were called anew in this heap -/
theorem vx_rebase {T : State} (X : Stand p l e R s m args below meth c T locs cells slots) {R' : Room} (hf : R'.frames ≤ R.frames) (hl : R'.locals ≤ R.locals) (hc : cells + R'.cells ≤ R.cells) (hs : slots + R'.slots ≤ R.slots) :
    Stand p l e R' ((T.setVm s.vm).setFrames (.invoking m args :: below)) m args below meth c T [] 0 0 := by
  have htop : (T.setVm s.vm).topJava?.isSome := X.here.top
  have hF : ((T.setVm s.vm).setFrames (.invoking m args :: below)).frames = .invoking m args :: below := State.frames_setFrames _ (State.cur_lt_of_top htop)
  obtain ⟨g₀, hg0⟩ := Option.isSome_iff_exists.mp htop
  obtain ⟨r, hr⟩ := State.topJava?_eq_some.mp hg0
  have hl9 : e.platform.stackLimits (T.setVm s.vm).me = e.platform.stackLimits s.me := X.limits
  have hb9 : (T.setVm s.vm).me.stackBytes = s.me.stackBytes := X.bytes
  refine ⟨X.admits, X.cas, X.clock, hF, ?_, X.hears, X.method, X.code, X.here, X.tail, X.warmed, ?_, ?_, ?_⟩
  · have h := X.room
    have hU : ((T.setVm s.vm).setFrames (.invoking m args :: below)).localsInUse = s.localsInUse := by
      rw [State.localsInUse_invoking hF (meth := meth) (c := c) X.method X.code, State.localsInUse_invoking X.frames X.method X.code]
    simp only [State.hasRoom, Bool.and_eq_true, decide_eq_true_eq] at h ⊢
    obtain ⟨⟨⟨⟨h1, h2, h3, h4, h5, h6⟩, h7⟩, h8⟩, h9⟩ := h
    rw [X.frames, List.length_cons] at h2 h3
    have q1 := X.heapSize
    have q2 := X.used
    simp only [hF, hU, List.length_cons, State.stackLimits_setFrames, State.stackBytes_setFrames, hl9, hb9]
    refine ⟨⟨⟨⟨by omega, by omega, by omega, by omega, by omega, h6⟩, ?_⟩, ?_⟩, X.book⟩
    · show T.heap.size + R'.cells ≤ e.platform.maxCells
      omega
    · show T.slotsUsed + R'.slots ≤ e.platform.maxSlots
      omega
  · rw [State.stackLimits_setFrames]; rfl
  · rw [State.stackBytes_setFrames]; rfl
  · refine ⟨?_, Nat.le_refl _, Nat.le_refl _, ?_, ?_, fun a c9 h9 => ⟨c9, h9, rfl, rfl, fun _ _ => rfl⟩⟩
    · obtain ⟨t, ht, -⟩ := State.frames_cons hr
      show T.setVm s.vm = { ((T.setVm s.vm).setFrames (.invoking m args :: below)).setFrames (T.setVm s.vm).frames with heap := T.heap, slotsUsed := T.slotsUsed }
      rw [State.setFrames_setFrames, State.setFrames_self ht]
      rfl
    · show T.slotsUsed = T.slotsUsed + ((T.heap.toList.drop T.heap.size).map (·.slots.size)).sum
      rw [List.drop_eq_nil_of_le (Nat.le_of_eq Array.length_toList)]
      rfl
    · show ((T.heap.toList.drop T.heap.size).map (·.slots.size)).sum ≤ 0
      rw [List.drop_eq_nil_of_le (Nat.le_of_eq Array.length_toList)]
      exact Nat.le_refl _
/-- 'throw new E()': new; dup; invokespecial; athrow -/
theorem vx_throw0 {cc : ByteArray} {pc : Nat} (hexec : p.tables.exec = Jvm.exec) (hb : c.code = cc) (hl : l.stackTraces = false) {own cls : String} {names : List String} {ik ic mc ms : Nat} {A : Nat → Prop}
    (hown : s.vm.findClass own = some m.cls) (hcls : Bundle.fit cls = true) (hnames : ∀ n ∈ names, Bundle.fit n = true)
    (hk : (Cond.classLink own ik cls).before args s = true) (hini : (Cond.initialized cls).before args s = true) (hat : ∀ w ∈ vx_at0 own ic cls names, w.before args s = true)
    (hgood : ∀ w ∈ Cond.classLink own ik cls :: Cond.initialized cls :: vx_at0 own ic cls names, vx_ot w = true)
    (hU : vx_Zq Bundle.tN "UNASSIGNED_STACK" Bundle.steD A s s.heap) (hN : vx_Zq Bundle.tN "SUPPRESSED_SENTINEL" Bundle.listD A s s.heap) (hS : va_S A s.heap H locs) (hsize : ls.size = c.maxLocals)
    (d0 : decode cc pc = .ok (.new ik, 3)) (d3 : decode cc (pc + 3) = .ok (.dup, 1)) (d4 : decode cc (pc + 4) = .ok (.invokespecial ic, 3)) (d7 : decode cc (pc + 7) = .ok (.athrow, 1))
    (hout : ∀ x ∈ c.exceptionTable.toList, covers x (pc + 7) = false)
    (hRframes : names.length + 3 < R.frames) (hRlocals : (rest.map fun v => v.category).sum + (13 * (names.length + 1) + 42) ≤ R.locals) (hRcells : cells + 1 ≤ R.cells) (hRslots : slots + 6 ≤ R.slots) (hlocks : meth.locks = false)
    (hx : ∀ t : State, s.vm.Alike t.vm → H.size ≤ t.heap.size → (∀ q : Nat, q < H.size → t.heap[q]? = H[q]?) → XC cls s t)
    (hf : ∀ z ∈ locs, free z.base) (hc : cells + 1 ≤ mc) (hs : slots + 6 ≤ ms) :
    W p l e R s m args below meth c H locs cells slots (vx_MQ below Qc XC args s mc ms free) (F0 m pc ls rest) := by
  intro T hT X
  have htr : e.platform.stackTraces = false := (show e.platform.stackTraces = l.stackTraces by rw [X.admits.platform]).trans hl
  have Y := vx_rebase X (R' := { frames := R.frames, locals := R.locals, cells := 1, slots := 6 }) (Nat.le_refl _) (Nat.le_refl _) hRcells hRslots
  obtain ⟨s', hA⟩ : ∃ z, z = (T.setVm s.vm).setFrames (.invoking m args :: below) := ⟨_, rfl⟩
  rw [← hA] at Y
  have hvm : s'.vm = s.vm := by rw [hA]; rfl
  have hhp : s'.heap = H := by rw [hA]; exact hT
  have hW0 : s.WarmedH s'.vm := by rw [hvm]; exact State.WarmedH.refl s
  have hat' : ∀ w ∈ vx_at0 own ic cls names, w.before args s' = true := fun w hw => vx_ot_at hW0 hvm.symm (hgood w (List.mem_cons_of_mem _ (List.mem_cons_of_mem _ hw))) (hat w hw)
  have hk' : (Cond.classLink own ik cls).before args s' = true := vx_ot_at hW0 hvm.symm (hgood _ List.mem_cons_self) hk
  have hini' : (Cond.initialized cls).before args s' = true := vx_ot_at hW0 hvm.symm (hgood _ (List.mem_cons_of_mem _ List.mem_cons_self)) hini
  have hU' : vx_Zq Bundle.tN "UNASSIGNED_STACK" Bundle.steD A s' s'.heap := by rw [hhp]; exact vx_Zq.moved hW0.alike (hU.kept hS.2.1)
  have hN' : vx_Zq Bundle.tN "SUPPRESSED_SENTINEL" Bundle.listD A s' s'.heap := by rw [hhp]; exact vx_Zq.moved hW0.alike (hN.kept hS.2.1)
  have h : ∀ w ∈ Bundle.ownAtoms0 own ic cls names, w.before args s' = true := vx_own hat' (vx_isRefq hU'.1) (vx_isRefq hN'.1) hU'.2.word hN'.2.word
  have hown' : s'.vm.findClass own = some m.cls := by rw [hvm]; exact hown
  have hins : (Cond.instantiable cls 6).before args s' = true := h _ (by simp [Bundle.ownAtoms0])
  obtain ⟨vm₁, cX, kX, hfX, hkX, -, -, X₁, st1⟩ := Y.newCold hexec (own := own) (C := cls) (index := ik) (n := 6) hown' hk' hins hini'
    (g := F0 m pc ls rest) rfl (by rw [hb]; exact d0) (Nat.le_refl _) (Nat.le_refl _)
  generalize hT1 : (T.setVm vm₁).pushCell { cls := cX, slots := kX.instanceTypes.map defaultValue, vm := .none } = T1 at X₁ st1
  have hcat : (Value.ref T.heap.size).category = 1 := rfl
  have hcellA : T1.heap[T.heap.size]? = some (freshCell cX kX) := by rw [← hT1]; exact State.heap_pushCell_size _ _
  have d3' : decode c.code (pc + 3) = .ok (.dup, 1) := by rw [hb]; exact d3
  obtain ⟨U, hsteps, hrun, hend, hW, hsame, ce, hce, hO⟩ := X₁.ctorThrow0 hexec htr (own := own) (cls := cls) (names := names) (ic := ic) hown' hcls hnames h (fun x hx => nomatch hx) hfX hkX hcellA (by rw [hhp, hT]; exact Nat.le_refl _)
    (g := { method := m, pc := pc + 4, locals := ls, stack := .ref T.heap.size :: .ref T.heap.size :: rest, locked := none }) rfl hsize rfl rfl (rest := rest) rfl
    (by rw [hb]; exact d4) (by rw [hb]; exact d7) hout hRframes (by simp only [List.map_cons, List.sum_cons, hcat]; omega) hlocks
  obtain ⟨f1, f2⟩ := vx_frame hsame
  rw [hhp] at f1 f2
  have hWs : s.WarmedH U.vm := State.WarmedH.trans hW0 hW
  have hcl : s.vm.findClass cls = some ce.cls := by
    have h9 := hO.cls
    rw [hvm] at h9
    exact h9
  have hall : s.sameButNew ({ U with vm := s.vm } : State) locs mc ms := by
    subst hA
    obtain ⟨e1, e2⟩ := hsame
    rw [State.setFrames_setFrames] at e1
    have h2 : (T.setVm s.vm).sameButNew ({ U with vm := s.vm } : State) [] (0 + 1) (0 + 6) := ⟨e1, e2⟩
    have h3 := X.same.trans h2
    rw [List.append_nil] at h3
    exact h3.mono hc hs
  refine ⟨U, ?_, .threw T.heap.size, hrun, hend, Or.inr ⟨T.heap.size, rfl, cls, ce, locs, hx U hWs.alike f1 (fun q hq => f2 q hq (fun z hz => nomatch hz)), hce, hO.vm, hcl, hWs, hall, hf⟩⟩
  refine st1 _ ?_
  show Steps p.tables e below (T1.setTop { method := m, pc := pc + 3, locals := ls, stack := .ref T.heap.size :: rest, locked := none }) _
  jvm_step X₁.here [X₁.here.top, hexec, d3', Value.category]
  exact hsteps
/-- 'throw new E("text")': new; dup; ldc; invokespecial; athrow -/
theorem vx_throwS {cc : ByteArray} {pc : Nat} (hexec : p.tables.exec = Jvm.exec) (hb : c.code = cc) (hl : l.stackTraces = false) {own cls text : String} {names : List String} {ik is ic mc ms sa : Nat} {A : Nat → Prop}
    (hown : s.vm.findClass own = some m.cls) (hcls : Bundle.fit cls = true) (hnames : ∀ n ∈ names, Bundle.fit n = true)
    (hk : (Cond.classLink own ik cls).before args s = true) (hini : (Cond.initialized cls).before args s = true) (hstr : vk_R own is text sa s) (hat : ∀ w ∈ vx_atS own ic cls names, w.before args s = true)
    (hgood : ∀ w ∈ Cond.classLink own ik cls :: Cond.initialized cls :: vx_atS own ic cls names, vx_ot w = true)
    (hU : vx_Zq Bundle.tN "UNASSIGNED_STACK" Bundle.steD A s s.heap) (hN : vx_Zq Bundle.tN "SUPPRESSED_SENTINEL" Bundle.listD A s s.heap) (hS : va_S A s.heap H locs) (hsize : ls.size = c.maxLocals)
    (d0 : decode cc pc = .ok (.new ik, 3)) (d3 : decode cc (pc + 3) = .ok (.dup, 1)) (d4 : decode cc (pc + 4) = .ok (.ldc is, 2)) (d6 : decode cc (pc + 6) = .ok (.invokespecial ic, 3)) (d9 : decode cc (pc + 9) = .ok (.athrow, 1))
    (hout : ∀ x ∈ c.exceptionTable.toList, covers x (pc + 9) = false)
    (hRframes : names.length + 3 < R.frames) (hRlocals : (rest.map fun v => v.category).sum + (13 * (names.length + 1) + 43) ≤ R.locals) (hRcells : cells + 1 ≤ R.cells) (hRslots : slots + 6 ≤ R.slots) (hlocks : meth.locks = false)
    (hx : ∀ t : State, s.vm.Alike t.vm → H.size ≤ t.heap.size → (∀ q : Nat, q < H.size → t.heap[q]? = H[q]?) → XC cls s t)
    (hf : ∀ z ∈ locs, free z.base) (hc : cells + 1 ≤ mc) (hs : slots + 6 ≤ ms) :
    W p l e R s m args below meth c H locs cells slots (vx_MQ below Qc XC args s mc ms free) (F0 m pc ls rest) := by
  intro T hT X
  have htr : e.platform.stackTraces = false := (show e.platform.stackTraces = l.stackTraces by rw [X.admits.platform]).trans hl
  have Y := vx_rebase X (R' := { frames := R.frames, locals := R.locals, cells := 1, slots := 6 }) (Nat.le_refl _) (Nat.le_refl _) hRcells hRslots
  obtain ⟨s', hA⟩ : ∃ z, z = (T.setVm s.vm).setFrames (.invoking m args :: below) := ⟨_, rfl⟩
  rw [← hA] at Y
  have hvm : s'.vm = s.vm := by rw [hA]; rfl
  have hhp : s'.heap = H := by rw [hA]; exact hT
  have hW0 : s.WarmedH s'.vm := by rw [hvm]; exact State.WarmedH.refl s
  have hat' : ∀ w ∈ vx_atS own ic cls names, w.before args s' = true := fun w hw => vx_ot_at hW0 hvm.symm (hgood w (List.mem_cons_of_mem _ (List.mem_cons_of_mem _ hw))) (hat w hw)
  have hk' : (Cond.classLink own ik cls).before args s' = true := vx_ot_at hW0 hvm.symm (hgood _ List.mem_cons_self) hk
  have hini' : (Cond.initialized cls).before args s' = true := vx_ot_at hW0 hvm.symm (hgood _ (List.mem_cons_of_mem _ List.mem_cons_self)) hini
  have hU' : vx_Zq Bundle.tN "UNASSIGNED_STACK" Bundle.steD A s' s'.heap := by rw [hhp]; exact vx_Zq.moved hW0.alike (hU.kept hS.2.1)
  have hN' : vx_Zq Bundle.tN "SUPPRESSED_SENTINEL" Bundle.listD A s' s'.heap := by rw [hhp]; exact vx_Zq.moved hW0.alike (hN.kept hS.2.1)
  have h : ∀ w ∈ Bundle.ownAtoms own ic cls names, w.before args s' = true := vx_own hat' (vx_isRefq hU'.1) (vx_isRefq hN'.1) hU'.2.word hN'.2.word
  have hown' : s'.vm.findClass own = some m.cls := by rw [hvm]; exact hown
  have hins : (Cond.instantiable cls 6).before args s' = true := h _ (by simp [Bundle.ownAtoms])
  obtain ⟨vm₁, cX, kX, hfX, hkX, -, -, X₁, st1⟩ := Y.newCold hexec (own := own) (C := cls) (index := ik) (n := 6) hown' hk' hins hini'
    (g := F0 m pc ls rest) rfl (by rw [hb]; exact d0) (Nat.le_refl _) (Nat.le_refl _)
  generalize hT1 : (T.setVm vm₁).pushCell { cls := cX, slots := kX.instanceTypes.map defaultValue, vm := .none } = T1 at X₁ st1
  have hcat : (Value.ref T.heap.size).category = 1 := rfl
  have hcellA : T1.heap[T.heap.size]? = some (freshCell cX kX) := by rw [← hT1]; exact State.heap_pushCell_size _ _
  have d3' : decode c.code (pc + 3) = .ok (.dup, 1) := by rw [hb]; exact d3
  have d4' : decode c.code (pc + 4) = .ok (.ldc is, 2) := by rw [hb]; exact d4
  have hstr' : vk_R own is text sa s' := vk_R.warm hW0 hstr
  obtain ⟨U, hsteps, hrun, hend, hW, hsame, ce, hce, hO⟩ := X₁.ctorThrowS hexec htr (own := own) (cls := cls) (names := names) (ic := ic) hown' hcls hnames h (fun x hx => nomatch hx) hfX hkX hcellA (by rw [hhp, hT]; exact Nat.le_refl _) (msg := .ref sa) rfl
    (g := { method := m, pc := pc + 6, locals := ls, stack := .ref sa :: .ref T.heap.size :: .ref T.heap.size :: rest, locked := none }) rfl hsize rfl rfl (rest := rest) rfl
    (by rw [hb]; exact d6) (by rw [hb]; exact d9) hout hRframes (by simp only [List.map_cons, List.sum_cons, hcat]; omega) hlocks
  obtain ⟨f1, f2⟩ := vx_frame hsame
  rw [hhp] at f1 f2
  have hWs : s.WarmedH U.vm := State.WarmedH.trans hW0 hW
  have hcl : s.vm.findClass cls = some ce.cls := by
    have h9 := hO.cls
    rw [hvm] at h9
    exact h9
  have hall : s.sameButNew ({ U with vm := s.vm } : State) locs mc ms := by
    subst hA
    obtain ⟨e1, e2⟩ := hsame
    rw [State.setFrames_setFrames] at e1
    have h2 : (T.setVm s.vm).sameButNew ({ U with vm := s.vm } : State) [] (0 + 1) (0 + 6) := ⟨e1, e2⟩
    have h3 := X.same.trans h2
    rw [List.append_nil] at h3
    exact h3.mono hc hs
  refine ⟨U, ?_, .threw T.heap.size, hrun, hend, Or.inr ⟨T.heap.size, rfl, cls, ce, locs, hx U hWs.alike f1 (fun q hq => f2 q hq (fun z hz => nomatch hz)), hce, hO.vm, hcl, hWs, hall, hf⟩⟩
  refine st1 _ ?_
  show Steps p.tables e below (T1.setTop { method := m, pc := pc + 3, locals := ls, stack := .ref T.heap.size :: rest, locked := none }) _
  jvm_step X₁.here [X₁.here.top, hexec, d3', Value.category]
  exact X₁.ldcString hexec (own := own) (text := text) (index := is) (a := sa) hown' hstr'.1 hstr'.2
    (g := { method := m, pc := pc + 4, locals := ls, stack := .ref T.heap.size :: .ref T.heap.size :: rest, locked := none }) rfl d4' _ hsteps
/-- 'throw new E("text")', the text by a wide index -/
theorem vx_throwSW {cc : ByteArray} {pc : Nat} (hexec : p.tables.exec = Jvm.exec) (hb : c.code = cc) (hl : l.stackTraces = false) {own cls text : String} {names : List String} {ik is ic mc ms sa : Nat} {A : Nat → Prop}
    (hown : s.vm.findClass own = some m.cls) (hcls : Bundle.fit cls = true) (hnames : ∀ n ∈ names, Bundle.fit n = true)
    (hk : (Cond.classLink own ik cls).before args s = true) (hini : (Cond.initialized cls).before args s = true) (hstr : vk_R own is text sa s) (hat : ∀ w ∈ vx_atS own ic cls names, w.before args s = true)
    (hgood : ∀ w ∈ Cond.classLink own ik cls :: Cond.initialized cls :: vx_atS own ic cls names, vx_ot w = true)
    (hU : vx_Zq Bundle.tN "UNASSIGNED_STACK" Bundle.steD A s s.heap) (hN : vx_Zq Bundle.tN "SUPPRESSED_SENTINEL" Bundle.listD A s s.heap) (hS : va_S A s.heap H locs) (hsize : ls.size = c.maxLocals)
    (d0 : decode cc pc = .ok (.new ik, 3)) (d3 : decode cc (pc + 3) = .ok (.dup, 1)) (d4 : decode cc (pc + 4) = .ok (.ldc_w is, 3)) (d7 : decode cc (pc + 7) = .ok (.invokespecial ic, 3)) (d10 : decode cc (pc + 10) = .ok (.athrow, 1))
    (hout : ∀ x ∈ c.exceptionTable.toList, covers x (pc + 10) = false)
    (hRframes : names.length + 3 < R.frames) (hRlocals : (rest.map fun v => v.category).sum + (13 * (names.length + 1) + 43) ≤ R.locals) (hRcells : cells + 1 ≤ R.cells) (hRslots : slots + 6 ≤ R.slots) (hlocks : meth.locks = false)
    (hx : ∀ t : State, s.vm.Alike t.vm → H.size ≤ t.heap.size → (∀ q : Nat, q < H.size → t.heap[q]? = H[q]?) → XC cls s t)
    (hf : ∀ z ∈ locs, free z.base) (hc : cells + 1 ≤ mc) (hs : slots + 6 ≤ ms) :
    W p l e R s m args below meth c H locs cells slots (vx_MQ below Qc XC args s mc ms free) (F0 m pc ls rest) := by
  intro T hT X
  have htr : e.platform.stackTraces = false := (show e.platform.stackTraces = l.stackTraces by rw [X.admits.platform]).trans hl
  have Y := vx_rebase X (R' := { frames := R.frames, locals := R.locals, cells := 1, slots := 6 }) (Nat.le_refl _) (Nat.le_refl _) hRcells hRslots
  obtain ⟨s', hA⟩ : ∃ z, z = (T.setVm s.vm).setFrames (.invoking m args :: below) := ⟨_, rfl⟩
  rw [← hA] at Y
  have hvm : s'.vm = s.vm := by rw [hA]; rfl
  have hhp : s'.heap = H := by rw [hA]; exact hT
  have hW0 : s.WarmedH s'.vm := by rw [hvm]; exact State.WarmedH.refl s
  have hat' : ∀ w ∈ vx_atS own ic cls names, w.before args s' = true := fun w hw => vx_ot_at hW0 hvm.symm (hgood w (List.mem_cons_of_mem _ (List.mem_cons_of_mem _ hw))) (hat w hw)
  have hk' : (Cond.classLink own ik cls).before args s' = true := vx_ot_at hW0 hvm.symm (hgood _ List.mem_cons_self) hk
  have hini' : (Cond.initialized cls).before args s' = true := vx_ot_at hW0 hvm.symm (hgood _ (List.mem_cons_of_mem _ List.mem_cons_self)) hini
  have hU' : vx_Zq Bundle.tN "UNASSIGNED_STACK" Bundle.steD A s' s'.heap := by rw [hhp]; exact vx_Zq.moved hW0.alike (hU.kept hS.2.1)
  have hN' : vx_Zq Bundle.tN "SUPPRESSED_SENTINEL" Bundle.listD A s' s'.heap := by rw [hhp]; exact vx_Zq.moved hW0.alike (hN.kept hS.2.1)
  have h : ∀ w ∈ Bundle.ownAtoms own ic cls names, w.before args s' = true := vx_own hat' (vx_isRefq hU'.1) (vx_isRefq hN'.1) hU'.2.word hN'.2.word
  have hown' : s'.vm.findClass own = some m.cls := by rw [hvm]; exact hown
  have hins : (Cond.instantiable cls 6).before args s' = true := h _ (by simp [Bundle.ownAtoms])
  obtain ⟨vm₁, cX, kX, hfX, hkX, -, -, X₁, st1⟩ := Y.newCold hexec (own := own) (C := cls) (index := ik) (n := 6) hown' hk' hins hini'
    (g := F0 m pc ls rest) rfl (by rw [hb]; exact d0) (Nat.le_refl _) (Nat.le_refl _)
  generalize hT1 : (T.setVm vm₁).pushCell { cls := cX, slots := kX.instanceTypes.map defaultValue, vm := .none } = T1 at X₁ st1
  have hcat : (Value.ref T.heap.size).category = 1 := rfl
  have hcellA : T1.heap[T.heap.size]? = some (freshCell cX kX) := by rw [← hT1]; exact State.heap_pushCell_size _ _
  have d3' : decode c.code (pc + 3) = .ok (.dup, 1) := by rw [hb]; exact d3
  have d4' : decode c.code (pc + 4) = .ok (.ldc_w is, 3) := by rw [hb]; exact d4
  have hstr' : vk_R own is text sa s' := vk_R.warm hW0 hstr
  obtain ⟨U, hsteps, hrun, hend, hW, hsame, ce, hce, hO⟩ := X₁.ctorThrowS hexec htr (own := own) (cls := cls) (names := names) (ic := ic) hown' hcls hnames h (fun x hx => nomatch hx) hfX hkX hcellA (by rw [hhp, hT]; exact Nat.le_refl _) (msg := .ref sa) rfl
    (g := { method := m, pc := pc + 7, locals := ls, stack := .ref sa :: .ref T.heap.size :: .ref T.heap.size :: rest, locked := none }) rfl hsize rfl rfl (rest := rest) rfl
    (by rw [hb]; exact d7) (by rw [hb]; exact d10) hout hRframes (by simp only [List.map_cons, List.sum_cons, hcat]; omega) hlocks
  obtain ⟨f1, f2⟩ := vx_frame hsame
  rw [hhp] at f1 f2
  have hWs : s.WarmedH U.vm := State.WarmedH.trans hW0 hW
  have hcl : s.vm.findClass cls = some ce.cls := by
    have h9 := hO.cls
    rw [hvm] at h9
    exact h9
  have hall : s.sameButNew ({ U with vm := s.vm } : State) locs mc ms := by
    subst hA
    obtain ⟨e1, e2⟩ := hsame
    rw [State.setFrames_setFrames] at e1
    have h2 : (T.setVm s.vm).sameButNew ({ U with vm := s.vm } : State) [] (0 + 1) (0 + 6) := ⟨e1, e2⟩
    have h3 := X.same.trans h2
    rw [List.append_nil] at h3
    exact h3.mono hc hs
  refine ⟨U, ?_, .threw T.heap.size, hrun, hend, Or.inr ⟨T.heap.size, rfl, cls, ce, locs, hx U hWs.alike f1 (fun q hq => f2 q hq (fun z hz => nomatch hz)), hce, hO.vm, hcl, hWs, hall, hf⟩⟩
  refine st1 _ ?_
  show Steps p.tables e below (T1.setTop { method := m, pc := pc + 3, locals := ls, stack := .ref T.heap.size :: rest, locked := none }) _
  jvm_step X₁.here [X₁.here.top, hexec, d3', Value.category]
  exact X₁.ldcStringW hexec (own := own) (text := text) (index := is) (a := sa) hown' hstr'.1 hstr'.2
    (g := { method := m, pc := pc + 4, locals := ls, stack := .ref T.heap.size :: .ref T.heap.size :: rest, locked := none }) rfl d4' _ hsteps
end Ends
section Bodies
variable {l : Launch}
theorem vx_ofW {y : MethodName} {ws ws' : List Cond} {rm : Room} {Pc : Array Value → State → Prop} {Qc : Array Value → State → Outcome → State → Prop} {XC : String → State → State → Prop} {mc ms : Nat} {free : Addr → Prop} {cc : ByteArray} {maxL : Nat} {ret : Option FieldType}
    (hy : plainName y.cls = true) (hw : ws = Cond.code y cc maxL ret :: ws')
    (body : ∀ p e s m args below meth c s₁, BodyLoose p l y (headSpec ws rm) cc maxL ret e s m args below meth c s₁ → c.maxLocals = maxL → (∀ x ∈ c.exceptionTable.toList, False) → Pc args s →
      W p l e (headSpec ws rm).room s m args below meth c s.heap [] 0 0 (vx_MQ below Qc XC args s mc ms free) (entryFrame m args maxL)) : vx_Met l y ws rm Pc Qc XC mc ms free := by
  refine MetFree.of_bodyS (code := cc) (maxLocals := maxL) (ret := ret) hy ?_ ?_
  · intro args s m h hn
    obtain ⟨meth, c, h1, h2, h3, h4, h5, h6, -, -⟩ := Cond.code_spec hn (atoms_spec (ws := ws) h _ (by rw [hw]; exact List.mem_cons_self))
    exact ⟨meth, c, h1, h2, h3, h4, h5, h6⟩
  · intro p e s m args below meth c s₁ B hml hP _
    have hh0 : s₁.heap = s.heap := by rw [B.state]; rfl
    have ht : ∀ x ∈ c.exceptionTable.toList, False := by
      obtain ⟨meth9, c9, h1, h2, -, -, -, -, h7, -⟩ := Cond.code_spec B.named (atoms_spec (ws := ws) B.pre _ (by rw [hw]; exact List.mem_cons_self))
      cases Option.some.inj (h1.symm.trans B.method)
      cases Option.some.inj (h2.symm.trans (Stand.of_body B).code)
      intro x hx
      rw [Array.isEmpty_iff.mp h7] at hx
      cases hx
    obtain ⟨t, a1, o, b1, b2, b3⟩ := body p e s m args below meth c s₁ B hml ht hP s₁ hh0 (Stand.of_body B)
    exact ⟨t, o, a1, b1, b2, b3⟩
/-- the table of a body with handlers -/
theorem vx_table {p : Program} {x y : MethodName} {S : Spec} {cc bytes : ByteArray} {maxL maxL' : Nat} {ret ret' : Option FieldType} {e : Env} {s s₁ : State} {m : MethodId} {args : Array Value} {below : List Frame} {meth : Method} {c : Code} {hh : List (Nat × Nat × Nat × Nat)}
    (B : BodyLoose p l y S cc maxL ret e s m args below meth c s₁) (h : (Cond.codeWith y bytes maxL' ret' hh).before args s = true) : c.exceptionTable.toList = tableOf hh := by
  obtain ⟨m9, meth9, c9, hn9, h1, h2, -, -, h6, -⟩ := Cond.codeWith_spec h
  cases Option.some.inj (hn9.symm.trans B.named)
  cases Option.some.inj (h1.symm.trans B.method)
  cases Option.some.inj (h2.symm.trans (Stand.of_body B).code)
  rw [← h6, table_eq]
end Bodies
end VXA
/-! ===== END ===== -/
/-! ===== BEGIN a static call of a method with an exception table ===== -/
section VXS
variable {p : Program} {l : Launch} {e : Env} {R : Room} {s : State} {m : MethodId} {args : Array Value} {below : List Frame} {meth : Method} {c : Code} {T : State} {H : Heap} {locs : List Loc} {cells slots : Nat}
abbrev vx_CSW (R : Room) (s : State) (args : Array Value) (own : String) (index : Nat) (y : MethodName) (bytes : ByteArray) (maxL : Nat) (ret : Option FieldType) (hh : List (Nat × Nat × Nat × Nat)) (ws : List Cond) (rm : Room) (mc ms n : Nat) : Prop :=
  (rm.cells = mc ∧ rm.slots = ms ∧ rm.frames + 1 ≤ R.frames ∧ 8 + (maxL + 11) + rm.locals ≤ R.locals ∧ (∀ w ∈ ws, ∀ (a' : Array Value) (U : State), s.WarmedH U.vm → w.before a' U = true) ∧ Cond.codeWith y bytes maxL ret hh ∈ ws) ∧
  (Cond.codeWith y bytes maxL ret hh).before args s = true ∧ (Cond.initialized y.cls).before args s = true ∧ (y.cls ≠ "java/lang/invoke/MethodHandle" ∧ y.cls ≠ "java/lang/invoke/VarHandle") ∧
  (∀ sig, parseMethodDescriptor y.desc = some sig → n = sig.parameters.length) ∧ (Cond.methodLink own index y).before args s = true ∧ (Cond.static y).before args s = true
theorem vx_cwSW {own : String} {index maxL mc ms : Nat} {y : MethodName} {bytes : ByteArray} {ret : Option FieldType} {hh : List (Nat × Nat × Nat × Nat)} {Ts ws ws' : List Cond} {rm : Room} (n : Nat) (ht : ∀ w ∈ Ts, w.before args s = true) (hT : GoodIn Ts (va_wsS own index y ws)) (hw : ws = Cond.codeWith y bytes maxL ret hh :: ws') (hrc : rm.cells = mc) (hrs : rm.slots = ms)
    (hd : y.cls ≠ "java/lang/invoke/MethodHandle" ∧ y.cls ≠ "java/lang/invoke/VarHandle" ∧ (parseMethodDescriptor y.desc).map (fun d => d.parameters.length) = some n) (hR : rm.frames + 1 ≤ R.frames ∧ 8 + (maxL + 11) + rm.locals ≤ R.locals) :
    vx_CSW R s args own index y bytes maxL ret hh ws rm mc ms n := by
  have ok : ∀ w ∈ va_wsS own index y ws, w.before args s = true := fun w h => ht w (hT w h).1
  have hG : GoodIn Ts ws := fun w h => hT w (by unfold va_wsS; exact List.mem_append_right _ h)
  have hc : Cond.codeWith y bytes maxL ret hh ∈ ws := by rw [hw]; exact List.mem_cons_self
  refine ⟨⟨hrc, hrs, hR.1, hR.2, pay_in ht hG, hc⟩, ht _ (hG _ hc).1, ok _ (by simp [va_wsS]), ⟨hd.1, hd.2.1⟩, fun sig h => ?_, ok _ (by simp [va_wsS]), ok _ (by simp [va_wsS])⟩
  have h2 := hd.2.2
  rw [h] at h2
  exact (Option.some.inj h2).symm
theorem vx_callSW (X : Stand p l e R s m args below meth c T locs cells slots) (hexec : p.tables.exec = Jvm.exec) {own : String} {index : Nat} {y : MethodName} {bytes : ByteArray} {maxL : Nat} {ret : Option FieldType} {hh : List (Nat × Nat × Nat × Nat)}
    (hown : s.vm.findClass own = some m.cls) (hlink : (Cond.methodLink own index y).before args s = true) (hstat : (Cond.static y).before args s = true) (hinit : (Cond.initialized y.cls).before args s = true)
    (hcode : (Cond.codeWith y bytes maxL ret hh).before args s = true) (hy : y.cls ≠ "java/lang/invoke/MethodHandle" ∧ y.cls ≠ "java/lang/invoke/VarHandle")
    {W9 : Nat} {Pre : Pt → Array Value → Prop} {Post : Pt → Array Value → Option Value → Pt → Prop} (hK : Back l R p e below s args y 3 W9 Pre Post)
    {g : JFrame} (hg : g.method = m) (hsize : g.locals.size = c.maxLocals) {argsL rest : List Value} (hlen : ∀ sig, parseMethodDescriptor y.desc = some sig → argsL.length = sig.parameters.length)
    (hstack : g.stack = argsL.reverse ++ rest) (hW : 2 * g.monitorRoom + (rest.map fun v => v.category).sum ≤ W9) (hdg : decode c.code g.pc = .ok (.invokestatic index, 3))
    (hpre : ∀ vm₁, s.WarmedH vm₁ → Pre ⟨T.setVm vm₁, locs, cells, slots⟩ argsL.toArray) :
    ∃ (v : Option Value) (vm₁ : Vm) (B : Pt), s.WarmedH vm₁ ∧ Stand p l e R s m args below meth c B.U B.locs B.cells B.slots ∧ Post ⟨T.setVm vm₁, locs, cells, slots⟩ argsL.toArray v B ∧
      ∀ target, Steps p.tables e below (B.U.setTop { g with pc := g.pc + 3, stack := v.toList ++ rest }) target → Steps p.tables e below (T.setTop g) target := by
  obtain ⟨mk, methM, cM, hnamed, hmethM, -, -, -, -, -, -, hsigM⟩ := Cond.codeWith_spec hcode
  have hstatic : methM.isStatic = true := Cond.static_spec hnamed hmethM hstat
  obtain ⟨kP, hkP, -⟩ := className_of_methodNamed hnamed
  have hinitP : kP.init = .initialized := Cond.initialized_spec (findClass_of_methodNamed hnamed) hkP hinit
  obtain ⟨vm₁, X₁, hstep₁⟩ := X.invokestatic hexec hown hlink hnamed hmethM hstatic hkP hinitP hy (g := g) hg (argsL := argsL) (rest := rest) (hlen _ hsigM) hstack hdg
  obtain ⟨v, B, X', hpost, hsteps⟩ := hK m meth c ⟨T.setVm vm₁, locs, cells, slots⟩ { g with stack := rest } (.invokestatic index) mk argsL.toArray X₁ hg hsize hdg hW (X₁.named hnamed) (hpre vm₁ X₁.warmed)
  exact ⟨v, vm₁, B, X₁.warmed, X', hpost, fun target h => hstep₁ _ fun acts => by rw [doInvoke_state]; exact hsteps.trans h⟩
theorem vx_runSW {y : MethodName} {bytes cc : ByteArray} {maxL nL mc ms n index : Nat} {ret : Option FieldType} {hh : List (Nat × Nat × Nat × Nat)} {ws : List Cond} {rm : Room} {Pc : Array Value → State → Prop} {Qc : Array Value → State → Outcome → State → Prop} {free : Addr → Prop} {Ts : List Cond} {own : String} {As rest : List Value} {g : JFrame}
    (S : CallFix p m c cc nL s args Ts own) (hM : Met l y ws rm Pc Qc mc ms free) (cw : vx_CSW R s args own index y bytes maxL ret hh ws rm mc ms n) (hp : PreS s H Pc As)
    (hg : g.method = m) (hn : As.length = n) (hsize : g.locals.size = nL) (hstack : g.stack = As.reverse ++ rest) (hW : 2 * g.monitorRoom + (rest.map fun v => v.category).sum ≤ 8) (hdg : decode cc g.pc = .ok (.invokestatic index, 3)) (hf : cells + mc ≤ R.cells ∧ slots + ms ≤ R.slots) :
    va_Run p l e R s m args below meth c H locs cells slots mc ms g rest (Qc As.toArray) (free) := by
  obtain ⟨⟨hrc, hrs, hfr, hlo, hws, hcw⟩, hcode, hini, hy, hlen, hl, hstt⟩ := cw
  have hK : Back l R p e below s args y 3 8 (PreOf R mc ms Pc) (PostOf Qc mc ms free) := va_backW (hh := hh) (bytes := bytes) (maxL := maxL) (ret := ret) hM hp.1 hrc hrs hfr hlo hws hcw (fun a' U hW => word_at hW (Or.inl (by first | rfl | simp [Cond.onTables, Cond.keeps, Cond.steady])) hini)
  obtain ⟨hx, hb, hml, ho, -⟩ := S
  intro T hT X
  obtain ⟨v, vm₁, ⟨U', l2, c2, s2⟩, hW₁, X', ⟨g', mk, t, L, e1, e2, hq, h1, hL, h2, h3⟩, st⟩ := vx_callSW X hx (hh := hh) (bytes := bytes) (maxL := maxL) (ret := ret) ho hl hstt hini hcode hy hK hg (hsize.trans hml.symm) (argsL := As) (rest := rest) (fun sig h => hn.trans (hlen sig h)) hstack hW (by rw [hb]; exact hdg)
    (fun vm₁ hW₁ => ⟨hf.1, hf.2, hp.2 (T.setVm vm₁) hT hW₁⟩)
  dsimp only [Pt.U, Pt.locs, Pt.cells, Pt.slots] at X' e1 e2 h1 h2 h3 st
  subst h1; subst h2; subst h3
  exact ⟨v, (T.setVm vm₁).calling g' mk As.toArray, t, U', L, hT, X', hL, e1, e2, hq, st⟩
/-- not caught here, past rows that name other classes: it goes on to the caller -/
theorem vx_outP {p : Program} {l : Launch} {e : Env} {R : Room} {s : State} {m : MethodId} {args : Array Value} {below : List Frame} {meth : Method} {c : Code} {H : Heap} {locs : List Loc} {cells slots : Nat} {free : Addr → Prop} {ls : Array Slot} {rest : List Value} {Qc : Array Value → State → Outcome → State → Prop} {XC : String → State → State → Prop}
    {pc : Nat} {own E : String} {ce : Cell} {q : Addr} {mc ms : Nat} (hown : s.vm.findClass own = some m.cls) (hlocks : meth.locks = false)
    (hpass : ∀ z ∈ c.exceptionTable.toList, covers z pc = false ∨ (z.catchType ≠ 0 ∧ ∃ nm : String, (Cond.classLink own z.catchType nm).before args s = true ∧ va_Nc E nm s)) (hcell : H[q]? = some ce) (hv : ce.vm = .none) (hcl : s.vm.findClass E = some ce.cls)
    (hx : ∀ t : State, t.heap = H → s.vm.Alike t.vm → XC E s t) (hf : ∀ z ∈ locs, free z.base) (hc : cells ≤ mc) (hs : slots ≤ ms) :
    vx_W p l e R s m args below meth c H locs cells slots (vx_MQ below Qc XC args s mc ms free) (F0 m pc ls rest) q := by
  intro T hT X
  have hpl : e.platform.magicAccessors = ({} : Platform).magicAccessors := by rw [X.admits.platform]
  obtain ⟨vm', hW', X', st⟩ := X.outThrough hlocks q (g := F0 m pc ls rest) rfl rfl rfl (cell := ce) (by rw [hT]; exact hcell) (by rw [hv]; rfl)
    (by obtain ⟨k9, h9, -⟩ := Vm.findClass_spec hcl; exact ⟨k9, h9⟩) (fun z hz => by
      rcases hpass z hz with h | ⟨hz0, nm, hl1, hn1⟩
      · exact Or.inl h
      · obtain ⟨c6, hc6, hcl6⟩ := Cond.classLink_spec hown hl1 e.platform hpl
        obtain ⟨a8, b8, h1, h2, h3⟩ := hn1
        cases Option.some.inj (h1.symm.trans hcl)
        cases Option.some.inj (h2.symm.trans hc6)
        exact Or.inr ⟨hz0, _, hcl6, h3⟩)
  obtain ⟨g₀, hfr⟩ := X'.frames_eq
  have hcell9 : ((T.setVm vm').setFrames (.throwing q :: below)).heap[q]? = some ce := by
    show T.heap[q]? = some ce
    rw [hT]; exact hcell
  have hend : Ended ((T.setVm vm').setFrames (.throwing q :: below)) below (.threw q) := State.frames_setFrames _ (State.cur_lt_of_frames hfr)
  refine ⟨(T.setVm vm').setFrames (.throwing q :: below), ?_, .threw q, X'.here.running, hend, Or.inr ⟨q, rfl, E, ce, locs, hx _ hT (X'.ends _).1.alike, hcell9, hv, hcl, (X'.ends _).1, (X'.ends _).2.mono hc hs, hf⟩⟩
  rw [X.pushThrowing_eq]
  exact st
/-- a thing of a world lies in the heap -/
theorem vx_lt {D : va_G} {cl : List vw_C} {ws : va_W} {H1 : Heap} (h : va_P D cl ws H1) {k : Nat} {q : Nat × va_E} (hk : ws[k]? = some q) : q.1 < H1.size := (h k q hk).lt
end VXS
/-! ===== END ===== -/
/-! ===== BEGIN methods with a table of their own: called by a name, returning or throwing ===== -/
section VXH
/-! vx_backW, vx_callVX, vx_callSX, vx_callVW, vx_runVW, vx_runVX, vx_runSX, vx_ofWH follow the same proofs as their sisters above (Free/Laws.lean, Shelf42/LK1.lean); vx_outP calls Shelf42/NT130.lean (outThrough). -/
section
variable {l : Launch} {R : Room} {p : Program} {e : Env} {below : List Frame} {s : State} {sargs : Array Value} {y : MethodName} {len W9 : Nat}
theorem vx_backW {ws : List Cond} {rm : Room} {Pc : Array Value → State → Prop} {Qc : Array Value → State → Outcome → State → Prop} {XC : String → State → State → Prop} {mc ms : Nat} {free : Addr → Prop} {bytes : ByteArray} {maxL : Nat} {ret : Option FieldType} {hh : List (Nat × Nat × Nat × Nat)}
    (hM : vx_Met l y ws rm Pc Qc XC mc ms free) (hblind : FrameBlind Pc) (hrc : rm.cells = mc) (hrs : rm.slots = ms)
    (hframes : rm.frames + 1 ≤ R.frames) (hlocals : W9 + (maxL + 11) + rm.locals ≤ R.locals)
    (hws : ∀ w ∈ ws, ∀ a' U, s.WarmedH U.vm → w.before a' U = true) (hcode : Cond.codeWith y bytes maxL ret hh ∈ ws) (hinit : ∀ a' U, s.WarmedH U.vm → (Cond.initialized y.cls).before a' U = true) :
    vx_Back l R p e below s sargs y len W9 (PreOf R mc ms Pc) (PostOf Qc mc ms free) (vx_Post XC mc ms free) := by
  intro m meth c A g ig mk a X hg hsize hdg hW hn hp
  have h1 : (headSpec ws rm).pre.before a A.U = true := atoms_intro fun w hw => hws w hw _ _ X.warmed
  have h2 : (Cond.codeWith y bytes maxL ret hh).before a A.U = true := hws _ hcode _ _ X.warmed
  have h3 : (Cond.initialized y.cls).before a A.U = true := hinit _ _ X.warmed
  have h4 : A.cells + (headSpec ws rm).room.cells ≤ R.cells := by rw [show (headSpec ws rm).room.cells = mc from hrc]; exact hp.1
  have h5 : A.slots + (headSpec ws rm).room.slots ≤ R.slots := by rw [show (headSpec ws rm).room.slots = ms from hrs]; exact hp.2.1
  have hPc : Pc a (A.U.calling g mk a) := hblind _ _ _ _ hp.2.2
  obtain ⟨U, Ls, c0, s0⟩ := A
  dsimp only [Pt.U, Pt.locs, Pt.cells, Pt.slots] at h1 h2 h3 h4 h5 X hn hPc ⊢
  obtain ⟨m9, methY, cY, hn9, hmY, hcY, -, hlY, -⟩ := Cond.codeWith_spec h2
  cases Option.some.inj (hn9.symm.trans hn)
  obtain ⟨kY, hkY, -⟩ := className_of_methodNamed hn
  have hinitY : kY.init = .initialized := Cond.initialized_spec (findClass_of_methodNamed hn) hkY h3
  have h : At U g.method c below := by rw [hg]; exact X.here
  have hlocals9 : W9 + (maxL + 11) + (headSpec ws rm).room.locals ≤ R.locals := hlocals
  have happ : (headSpec ws rm).appliesLoose y e.platform (U.calling g mk a) = true :=
    Spec.appliesLoose_calling (g := g) h hdg hn hkY hinitY
      (X.room_calling (g := g) (R' := (headSpec ws rm).room) hsize hmY hcY hframes (by rw [hlY]; omega) h4 h5) h1
  obtain ⟨mid, hmid⟩ := h.above
  have hfr : (U.setTop g).frames = (.java g :: mid) ++ below := by rw [State.frames_setTop' g h.top, hmid]; rfl
  obtain ⟨o, s₂, hsteps, -, hend, hq⟩ := Steps.callFree hM p X.admits X.cas X.clock (acts := []) hfr happ hPc trivial
  have hq' : vx_Q Qc XC mc ms free a (U.calling g mk a) o s₂ := hq
  rw [State.frames_setTop' g h.top] at hend
  obtain ⟨g₀, hg0⟩ := Option.isSome_iff_exists.mp h.top
  obtain ⟨r, hr⟩ := State.topJava?_eq_some.mp hg0
  have hr' : (({ U with heap := s₂.heap, slotsUsed := s₂.slotsUsed } : State).setVm s₂.vm).frames = .java g₀ :: r := hr
  rcases hq' with ⟨hqc, L, hfe, hL⟩ | ⟨q, rfl, E, ce, L, hx, hce, hcv, hcl, hW₂, hsm, hL⟩
  · obtain ⟨⟨v, rfl⟩, hW₂, e2, q2, q3, q4, q5, q6⟩ := id hfe
    have e3 : s₂ = ({ (U.calling g mk a).setFrames s₂.frames with heap := s₂.heap, slotsUsed := s₂.slotsUsed } : State).setVm s₂.vm := by
      have : s₂ = ({ s₂ with vm := (U.calling g mk a).vm } : State).setVm s₂.vm := rfl
      rw [e2] at this
      exact this
    obtain ⟨c₂, i₂, len₂, hc₂, hd₂, hf₂⟩ := hend
    have hW' : U.WarmedH s₂.vm := hW₂
    have hcc : c₂ = c := by
      have h1 : s₂.code? g.method = U.code? g.method := by
        rw [State.code?_eq, State.code?_eq, hW'.alike.method?]
      exact Option.some.inj (hc₂.symm.trans (h1.trans h.code))
    subst hcc
    have hlen : len₂ = len := by rw [hdg] at hd₂; cases hd₂; rfl
    subst hlen
    have hs₂ : s₂ = (({ U with heap := s₂.heap, slotsUsed := s₂.slotsUsed } : State).setVm s₂.vm).setTop { g with pc := g.pc + len₂, stack := v.toList ++ g.stack } := by
      refine e3.trans ?_
      rw [hf₂, State.calling_eq h.top, State.setFrames_setFrames, State.setTop_of_frames _ hr', hr]
      rfl
    have hsame : U.sameButNew ({ U with heap := s₂.heap, slotsUsed := s₂.slotsUsed } : State) L mc ms := by
      refine ⟨?_, q2, q3, q4, q5, q6⟩
      obtain ⟨t, ht, -⟩ := State.frames_cons hr
      show ({ U with heap := s₂.heap, slotsUsed := s₂.slotsUsed } : State) = { U.setFrames U.frames with heap := s₂.heap, slotsUsed := s₂.slotsUsed }
      rw [State.setFrames_self ht]
    subst hg
    refine Or.inl ⟨v, ⟨(({ U with heap := s₂.heap, slotsUsed := s₂.slotsUsed } : State).setVm s₂.vm), Ls ++ L, c0 + mc, s0 + ms⟩,
      ⟨X.admits, X.cas, X.clock, X.frames, X.room, X.hears, X.method, X.code, (X.here.setHeapUsed s₂.heap s₂.slotsUsed).setVm hW'.alike, X.tail, State.WarmedH.trans X.warmed hW', X.limits, X.bytes, X.same.trans (hsame.setVm s.vm)⟩,
      ⟨g, mk, s₂, L, rfl, rfl, hqc, rfl, hL, rfl, rfl⟩, ?_⟩
    show Steps p.tables e below _ ((({ U with heap := s₂.heap, slotsUsed := s₂.slotsUsed } : State).setVm s₂.vm).setTop { g with pc := g.pc + len₂, stack := v.toList ++ g.stack })
    rw [← hs₂]
    exact hsteps
  · obtain ⟨e2, q2, q3, q4, q5, q6⟩ := id hsm
    have e3 : s₂ = ({ (U.calling g mk a).setFrames s₂.frames with heap := s₂.heap, slotsUsed := s₂.slotsUsed } : State).setVm s₂.vm := by
      have : s₂ = ({ s₂ with vm := (U.calling g mk a).vm } : State).setVm s₂.vm := rfl
      rw [e2] at this
      exact this
    have hf₂ : s₂.frames = .throwing q :: .java g :: U.frames.tail := hend
    have hW' : U.WarmedH s₂.vm := hW₂
    have hs₂ : s₂ = ((({ U with heap := s₂.heap, slotsUsed := s₂.slotsUsed } : State).setVm s₂.vm).setTop g).pushFrame (.throwing q) := by
      refine e3.trans ?_
      rw [hf₂, State.calling_eq h.top, State.setFrames_setFrames, State.pushFrame, State.frames_setTop _ hr', State.setTop_of_frames _ hr', State.setFrames_setFrames, hr]
      rfl
    have hsame : U.sameButNew ({ U with heap := s₂.heap, slotsUsed := s₂.slotsUsed } : State) L mc ms := by
      refine ⟨?_, q2, q3, q4, q5, q6⟩
      obtain ⟨t, ht, -⟩ := State.frames_cons hr
      show ({ U with heap := s₂.heap, slotsUsed := s₂.slotsUsed } : State) = { U.setFrames U.frames with heap := s₂.heap, slotsUsed := s₂.slotsUsed }
      rw [State.setFrames_self ht]
    subst hg
    refine Or.inr ⟨q, ⟨(({ U with heap := s₂.heap, slotsUsed := s₂.slotsUsed } : State).setVm s₂.vm), Ls ++ L, c0 + mc, s0 + ms⟩,
      ⟨X.admits, X.cas, X.clock, X.frames, X.room, X.hears, X.method, X.code, (X.here.setHeapUsed s₂.heap s₂.slotsUsed).setVm hW'.alike, X.tail, State.WarmedH.trans X.warmed hW', X.limits, X.bytes, X.same.trans (hsame.setVm s.vm)⟩,
      ⟨g, mk, s₂, L, E, ce, rfl, rfl, hx, hce, hcv, hcl, rfl, hL, rfl, rfl⟩, ?_⟩
    show Steps p.tables e below _ (((({ U with heap := s₂.heap, slotsUsed := s₂.slotsUsed } : State).setVm s₂.vm).setTop g).pushFrame (.throwing q))
    rw [← hs₂]
    exact hsteps
end
variable {p : Program} {l : Launch} {e : Env} {R : Room} {s : State} {m : MethodId} {args : Array Value} {below : List Frame} {meth : Method} {c : Code} {T : State} {H : Heap} {locs : List Loc} {cells slots : Nat}
theorem vx_callVX (X : Stand p l e R s m args below meth c T locs cells slots) (hexec : p.tables.exec = Jvm.exec) {own C : String} {index : Nat} {y : MethodName} {bytes : ByteArray} {maxL : Nat} {ret : Option FieldType} {hh : List (Nat × Nat × Nat × Nat)}
    (hown : s.vm.findClass own = some m.cls) (hlink : (Cond.methodLink own index y).before args s = true) (hinst : (Cond.instanceMethod y).before args s = true) (hsel : (Cond.selects C y y).before args s = true)
    (hcode : (Cond.codeWith y bytes maxL ret hh).before args s = true) (hy : y.cls ≠ "java/lang/invoke/MethodHandle" ∧ y.cls ≠ "java/lang/invoke/VarHandle")
    {W9 : Nat} {Pre : Pt → Array Value → Prop} {Post : Pt → Array Value → Option Value → Pt → Prop} {PostX : Pt → Array Value → Addr → Pt → Prop} (hK : vx_Back l R p e below s args y 3 W9 Pre Post PostX)
    {b : Addr} {cellB : Cell} (hcell : T.heap[b]? = some cellB) (hobj : cellB.vm.isStatics = false) (hcls : s.vm.findClass C = some cellB.cls)
    {g : JFrame} (hg : g.method = m) (hsize : g.locals.size = c.maxLocals) {argsL rest : List Value} (hlen : ∀ sig, parseMethodDescriptor y.desc = some sig → argsL.length = sig.parameters.length)
    (hstack : g.stack = argsL.reverse ++ .ref b :: rest) (hW : 2 * g.monitorRoom + (rest.map fun v => v.category).sum ≤ W9) (hdg : decode c.code g.pc = .ok (.invokevirtual index, 3))
    (hpre : ∀ vm₁, s.WarmedH vm₁ → Pre ⟨T.setVm vm₁, locs, cells, slots⟩ (Value.ref b :: argsL).toArray) :
    (∃ (v : Option Value) (vm₁ : Vm) (B : Pt), s.WarmedH vm₁ ∧ Stand p l e R s m args below meth c B.U B.locs B.cells B.slots ∧ Post ⟨T.setVm vm₁, locs, cells, slots⟩ (Value.ref b :: argsL).toArray v B ∧
      ∀ target, Steps p.tables e below (B.U.setTop { g with pc := g.pc + 3, stack := v.toList ++ rest }) target → Steps p.tables e below (T.setTop g) target) ∨
    (∃ (q : Addr) (vm₁ : Vm) (B : Pt), s.WarmedH vm₁ ∧ Stand p l e R s m args below meth c B.U B.locs B.cells B.slots ∧ PostX ⟨T.setVm vm₁, locs, cells, slots⟩ (Value.ref b :: argsL).toArray q B ∧
      Steps p.tables e below (T.setTop g) ((B.U.setTop { g with stack := rest }).pushFrame (.throwing q))) := by
  obtain ⟨mk, methM, hnamed, hmethM, hstM, habM⟩ := Cond.instanceMethod_spec hinst
  obtain ⟨m8, methM', cM, hn8, hmethM', -, -, -, -, -, -, hsigM⟩ := Cond.codeWith_spec hcode
  cases Option.some.inj (hn8.symm.trans hnamed)
  cases hmethM.symm.trans hmethM'
  obtain ⟨c2, r2, m2, q1, q2, q3, q4, kP, hkP, hkPi⟩ := Cond.selects_spec hsel
  cases hcls.symm.trans q1
  cases (State.methodFound?_of_named hnamed hy).symm.trans q2
  cases hnamed.symm.trans q3
  have hselP : selectMethod e.platform s.vm cellB.cls mk = .method mk := by rw [Launch.admits_selectMethod X.admits]; exact q4
  obtain ⟨vm₁, X₁, hstep₁⟩ := X.invokevirtual hexec hown hlink hnamed hmethM hstM hkP hkPi hy (a := b) (cell := cellB) hcell
    (fun z h => by rw [h] at hobj; cases hobj) hselP hmethM habM hkP hkPi (g := g) hg (argsL := argsL) (rest := rest) (hlen _ hsigM) hstack hdg
  rcases hK m meth c ⟨T.setVm vm₁, locs, cells, slots⟩ { g with stack := rest } (.invokevirtual index) mk (Value.ref b :: argsL).toArray X₁ hg hsize hdg hW (X₁.named hnamed) (hpre vm₁ X₁.warmed) with ⟨v, B, X', hpost, hsteps⟩ | ⟨q, B, X', hpost, hsteps⟩
  · exact Or.inl ⟨v, vm₁, B, X₁.warmed, X', hpost, fun target h => hstep₁ _ fun acts => by rw [doInvoke_state]; exact hsteps.trans h⟩
  · exact Or.inr ⟨q, vm₁, B, X₁.warmed, X', hpost, hstep₁ _ fun acts => by rw [doInvoke_state]; exact hsteps⟩
theorem vx_callSX (X : Stand p l e R s m args below meth c T locs cells slots) (hexec : p.tables.exec = Jvm.exec) {own : String} {index : Nat} {y : MethodName} {bytes : ByteArray} {maxL : Nat} {ret : Option FieldType} {hh : List (Nat × Nat × Nat × Nat)}
    (hown : s.vm.findClass own = some m.cls) (hlink : (Cond.methodLink own index y).before args s = true) (hstat : (Cond.static y).before args s = true) (hinit : (Cond.initialized y.cls).before args s = true)
    (hcode : (Cond.codeWith y bytes maxL ret hh).before args s = true) (hy : y.cls ≠ "java/lang/invoke/MethodHandle" ∧ y.cls ≠ "java/lang/invoke/VarHandle")
    {W9 : Nat} {Pre : Pt → Array Value → Prop} {Post : Pt → Array Value → Option Value → Pt → Prop} {PostX : Pt → Array Value → Addr → Pt → Prop} (hK : vx_Back l R p e below s args y 3 W9 Pre Post PostX)
    {g : JFrame} (hg : g.method = m) (hsize : g.locals.size = c.maxLocals) {argsL rest : List Value} (hlen : ∀ sig, parseMethodDescriptor y.desc = some sig → argsL.length = sig.parameters.length)
    (hstack : g.stack = argsL.reverse ++ rest) (hW : 2 * g.monitorRoom + (rest.map fun v => v.category).sum ≤ W9) (hdg : decode c.code g.pc = .ok (.invokestatic index, 3))
    (hpre : ∀ vm₁, s.WarmedH vm₁ → Pre ⟨T.setVm vm₁, locs, cells, slots⟩ argsL.toArray) :
    (∃ (v : Option Value) (vm₁ : Vm) (B : Pt), s.WarmedH vm₁ ∧ Stand p l e R s m args below meth c B.U B.locs B.cells B.slots ∧ Post ⟨T.setVm vm₁, locs, cells, slots⟩ argsL.toArray v B ∧
      ∀ target, Steps p.tables e below (B.U.setTop { g with pc := g.pc + 3, stack := v.toList ++ rest }) target → Steps p.tables e below (T.setTop g) target) ∨
    (∃ (q : Addr) (vm₁ : Vm) (B : Pt), s.WarmedH vm₁ ∧ Stand p l e R s m args below meth c B.U B.locs B.cells B.slots ∧ PostX ⟨T.setVm vm₁, locs, cells, slots⟩ argsL.toArray q B ∧
      Steps p.tables e below (T.setTop g) ((B.U.setTop { g with stack := rest }).pushFrame (.throwing q))) := by
  obtain ⟨mk, methM, cM, hnamed, hmethM, -, -, -, -, -, -, hsigM⟩ := Cond.codeWith_spec hcode
  have hstatic : methM.isStatic = true := Cond.static_spec hnamed hmethM hstat
  obtain ⟨kP, hkP, -⟩ := className_of_methodNamed hnamed
  have hinitP : kP.init = .initialized := Cond.initialized_spec (findClass_of_methodNamed hnamed) hkP hinit
  obtain ⟨vm₁, X₁, hstep₁⟩ := X.invokestatic hexec hown hlink hnamed hmethM hstatic hkP hinitP hy (g := g) hg (argsL := argsL) (rest := rest) (hlen _ hsigM) hstack hdg
  rcases hK m meth c ⟨T.setVm vm₁, locs, cells, slots⟩ { g with stack := rest } (.invokestatic index) mk argsL.toArray X₁ hg hsize hdg hW (X₁.named hnamed) (hpre vm₁ X₁.warmed) with ⟨v, B, X', hpost, hsteps⟩ | ⟨q, B, X', hpost, hsteps⟩
  · exact Or.inl ⟨v, vm₁, B, X₁.warmed, X', hpost, fun target h => hstep₁ _ fun acts => by rw [doInvoke_state]; exact hsteps.trans h⟩
  · exact Or.inr ⟨q, vm₁, B, X₁.warmed, X', hpost, hstep₁ _ fun acts => by rw [doInvoke_state]; exact hsteps⟩
theorem vx_callVW (X : Stand p l e R s m args below meth c T locs cells slots) (hexec : p.tables.exec = Jvm.exec) {own C : String} {index : Nat} {y : MethodName} {bytes : ByteArray} {maxL : Nat} {ret : Option FieldType} {hh : List (Nat × Nat × Nat × Nat)}
    (hown : s.vm.findClass own = some m.cls) (hlink : (Cond.methodLink own index y).before args s = true) (hinst : (Cond.instanceMethod y).before args s = true) (hsel : (Cond.selects C y y).before args s = true)
    (hcode : (Cond.codeWith y bytes maxL ret hh).before args s = true) (hy : y.cls ≠ "java/lang/invoke/MethodHandle" ∧ y.cls ≠ "java/lang/invoke/VarHandle")
    {W9 : Nat} {Pre : Pt → Array Value → Prop} {Post : Pt → Array Value → Option Value → Pt → Prop} (hK : Back l R p e below s args y 3 W9 Pre Post)
    {b : Addr} {cellB : Cell} (hcell : T.heap[b]? = some cellB) (hobj : cellB.vm.isStatics = false) (hcls : s.vm.findClass C = some cellB.cls)
    {g : JFrame} (hg : g.method = m) (hsize : g.locals.size = c.maxLocals) {argsL rest : List Value} (hlen : ∀ sig, parseMethodDescriptor y.desc = some sig → argsL.length = sig.parameters.length)
    (hstack : g.stack = argsL.reverse ++ .ref b :: rest) (hW : 2 * g.monitorRoom + (rest.map fun v => v.category).sum ≤ W9) (hdg : decode c.code g.pc = .ok (.invokevirtual index, 3))
    (hpre : ∀ vm₁, s.WarmedH vm₁ → Pre ⟨T.setVm vm₁, locs, cells, slots⟩ (Value.ref b :: argsL).toArray) :
    ∃ (v : Option Value) (vm₁ : Vm) (B : Pt), s.WarmedH vm₁ ∧ Stand p l e R s m args below meth c B.U B.locs B.cells B.slots ∧ Post ⟨T.setVm vm₁, locs, cells, slots⟩ (Value.ref b :: argsL).toArray v B ∧
      ∀ target, Steps p.tables e below (B.U.setTop { g with pc := g.pc + 3, stack := v.toList ++ rest }) target → Steps p.tables e below (T.setTop g) target := by
  obtain ⟨mk, methM, hnamed, hmethM, hstM, habM⟩ := Cond.instanceMethod_spec hinst
  obtain ⟨m8, methM', cM, hn8, hmethM', -, -, -, -, -, -, hsigM⟩ := Cond.codeWith_spec hcode
  cases Option.some.inj (hn8.symm.trans hnamed)
  cases hmethM.symm.trans hmethM'
  obtain ⟨c2, r2, m2, q1, q2, q3, q4, kP, hkP, hkPi⟩ := Cond.selects_spec hsel
  cases hcls.symm.trans q1
  cases (State.methodFound?_of_named hnamed hy).symm.trans q2
  cases hnamed.symm.trans q3
  have hselP : selectMethod e.platform s.vm cellB.cls mk = .method mk := by rw [Launch.admits_selectMethod X.admits]; exact q4
  obtain ⟨vm₁, X₁, hstep₁⟩ := X.invokevirtual hexec hown hlink hnamed hmethM hstM hkP hkPi hy (a := b) (cell := cellB) hcell
    (fun z h => by rw [h] at hobj; cases hobj) hselP hmethM habM hkP hkPi (g := g) hg (argsL := argsL) (rest := rest) (hlen _ hsigM) hstack hdg
  obtain ⟨v, B, X', hpost, hsteps⟩ := hK m meth c ⟨T.setVm vm₁, locs, cells, slots⟩ { g with stack := rest } (.invokevirtual index) mk (Value.ref b :: argsL).toArray X₁ hg hsize hdg hW (X₁.named hnamed) (hpre vm₁ X₁.warmed)
  exact ⟨v, vm₁, B, X₁.warmed, X', hpost, fun target h => hstep₁ _ fun acts => by rw [doInvoke_state]; exact hsteps.trans h⟩
abbrev vx_CVW (R : Room) (s : State) (args : Array Value) (own C : String) (index : Nat) (y : MethodName) (bytes : ByteArray) (maxL : Nat) (ret : Option FieldType) (hh : List (Nat × Nat × Nat × Nat)) (ws : List Cond) (rm : Room) (mc ms n : Nat) : Prop :=
  (rm.cells = mc ∧ rm.slots = ms ∧ rm.frames + 1 ≤ R.frames ∧ 8 + (maxL + 11) + rm.locals ≤ R.locals ∧ (∀ w ∈ ws, ∀ (a' : Array Value) (U : State), s.WarmedH U.vm → w.before a' U = true) ∧ Cond.codeWith y bytes maxL ret hh ∈ ws) ∧
  (Cond.codeWith y bytes maxL ret hh).before args s = true ∧ (Cond.initialized y.cls).before args s = true ∧ (y.cls ≠ "java/lang/invoke/MethodHandle" ∧ y.cls ≠ "java/lang/invoke/VarHandle") ∧
  (∀ sig, parseMethodDescriptor y.desc = some sig → n = sig.parameters.length) ∧ (Cond.methodLink own index y).before args s = true ∧ (Cond.instanceMethod y).before args s = true ∧ (Cond.selects C y y).before args s = true
theorem vx_cwVW {own C : String} {index maxL mc ms : Nat} {y : MethodName} {bytes : ByteArray} {ret : Option FieldType} {hh : List (Nat × Nat × Nat × Nat)} {Ts ws ws' : List Cond} {rm : Room} (n : Nat) (ht : ∀ w ∈ Ts, w.before args s = true) (hT : GoodIn Ts (wsV own index C y ws)) (hw : ws = Cond.codeWith y bytes maxL ret hh :: ws') (hrc : rm.cells = mc) (hrs : rm.slots = ms)
    (hd : y.cls = C ∧ y.cls ≠ "java/lang/invoke/MethodHandle" ∧ y.cls ≠ "java/lang/invoke/VarHandle" ∧ (parseMethodDescriptor y.desc).map (fun d => d.parameters.length) = some n) (hR : rm.frames + 1 ≤ R.frames ∧ 8 + (maxL + 11) + rm.locals ≤ R.locals) :
    vx_CVW R s args own C index y bytes maxL ret hh ws rm mc ms n := by
  obtain ⟨hC, hd⟩ := hd
  subst hC
  have ok : ∀ w ∈ wsV own index y.cls y ws, w.before args s = true := fun w h => ht w (hT w h).1
  have hG : GoodIn Ts ws := fun w h => hT w (by unfold wsV; exact List.mem_append_right _ h)
  have hc : Cond.codeWith y bytes maxL ret hh ∈ ws := by rw [hw]; exact List.mem_cons_self
  refine ⟨⟨hrc, hrs, hR.1, hR.2, pay_in ht hG, hc⟩, ht _ (hG _ hc).1, ok _ (by simp [wsV]), ⟨hd.1, hd.2.1⟩, fun sig h => ?_, ok _ (by simp [wsV]), ok _ (by simp [wsV]), ok _ (by simp [wsV])⟩
  have h2 := hd.2.2
  rw [h] at h2
  exact (Option.some.inj h2).symm
theorem vx_runVW {y : MethodName} {bytes cc : ByteArray} {maxL nL mc ms n index : Nat} {ret : Option FieldType} {hh : List (Nat × Nat × Nat × Nat)} {ws : List Cond} {rm : Room} {Pc : Array Value → State → Prop} {Qc : Array Value → State → Outcome → State → Prop} {free : Addr → Prop} {Ts : List Cond} {own C : String} {b : Addr} {As rest : List Value} {g : JFrame}
    (S : CallFix p m c cc nL s args Ts own) (hM : Met l y ws rm Pc Qc mc ms free) (cw : vx_CVW R s args own C index y bytes maxL ret hh ws rm mc ms n) (hp : PreV s H C b Pc As)
    (hg : g.method = m) (hn : As.length = n) (hsize : g.locals.size = nL) (hstack : g.stack = As.reverse ++ .ref b :: rest) (hW : 2 * g.monitorRoom + (rest.map fun v => v.category).sum ≤ 8) (hdg : decode cc g.pc = .ok (.invokevirtual index, 3)) (hf : cells + mc ≤ R.cells ∧ slots + ms ≤ R.slots) :
    va_Run p l e R s m args below meth c H locs cells slots mc ms g rest (Qc (Value.ref b :: As).toArray) free := by
  obtain ⟨⟨hrc, hrs, hfr, hlo, hws, hcw⟩, hcode, hini, hy, hlen, hl, hin, hse⟩ := cw
  have hK : Back l R p e below s args y 3 8 (PreOf R mc ms Pc) (PostOf Qc mc ms free) := va_backW (hh := hh) (bytes := bytes) (maxL := maxL) (ret := ret) hM hp.1 hrc hrs hfr hlo hws hcw (fun a' U hW => word_at hW (Or.inl (by first | rfl | simp [Cond.onTables, Cond.keeps, Cond.steady])) hini)
  obtain ⟨hx, hb, hml, ho, -⟩ := S
  obtain ⟨-, ⟨cellB, hcB, hoB, hclB⟩, hPc⟩ := hp
  intro T hT X
  obtain ⟨v, vm₁, ⟨U', l2, c2, s2⟩, hW₁, X', ⟨g', mk, t, L, e1, e2, hq, h1, hL, h2, h3⟩, st⟩ := vx_callVW X hx (C := C) (hh := hh) (bytes := bytes) (maxL := maxL) (ret := ret) ho hl hin hse hcode hy hK (by rw [hT]; exact hcB) hoB hclB hg (hsize.trans hml.symm) (argsL := As) (rest := rest) (fun sig h => hn.trans (hlen sig h)) hstack hW (by rw [hb]; exact hdg)
    (fun vm₁ hW₁ => ⟨hf.1, hf.2, hPc (T.setVm vm₁) hT hW₁⟩)
  dsimp only [Pt.U, Pt.locs, Pt.cells, Pt.slots] at X' e1 e2 h1 h2 h3 st
  subst h1; subst h2; subst h3
  exact ⟨v, (T.setVm vm₁).calling g' mk (Value.ref b :: As).toArray, t, U', L, hT, X', hL, e1, e2, hq, st⟩
section
variable {y : MethodName} {bytes cc : ByteArray} {maxL nL mc ms n index : Nat} {ret : Option FieldType} {ws : List Cond} {rm : Room} {Pc : Array Value → State → Prop} {Qc : Array Value → State → Outcome → State → Prop} {XC : String → State → State → Prop} {free : Addr → Prop} {Ts : List Cond} {own C : String} {b : Addr} {As rest : List Value} {g : JFrame}
theorem vx_runVX {hh : List (Nat × Nat × Nat × Nat)} (S : CallFix p m c cc nL s args Ts own) (hM : vx_Met l y ws rm Pc Qc XC mc ms free) (cw : vx_CVW R s args own C index y bytes maxL ret hh ws rm mc ms n) (hp : PreV s H C b Pc As)
    (hg : g.method = m) (hn : As.length = n) (hsize : g.locals.size = nL) (hstack : g.stack = As.reverse ++ .ref b :: rest) (hW : 2 * g.monitorRoom + (rest.map fun v => v.category).sum ≤ 8) (hdg : decode cc g.pc = .ok (.invokevirtual index, 3)) (hf : cells + mc ≤ R.cells ∧ slots + ms ≤ R.slots) :
    vx_Run p l e R s m args below meth c H locs cells slots mc ms g rest (Qc (Value.ref b :: As).toArray) XC free := by
  obtain ⟨⟨hrc, hrs, hfr, hlo, hws, hcw⟩, hcode, hini, hy, hlen, hl, hin, hse⟩ := cw
  have hK : vx_Back l R p e below s args y 3 8 (PreOf R mc ms Pc) (PostOf Qc mc ms free) (vx_Post XC mc ms free) := vx_backW (hh := hh) (bytes := bytes) (maxL := maxL) (ret := ret) hM hp.1 hrc hrs hfr hlo hws hcw (fun a' U hW => word_at hW (Or.inl (by first | rfl | simp [Cond.onTables, Cond.keeps, Cond.steady])) hini)
  obtain ⟨hx, hb, hml, ho, -⟩ := S
  obtain ⟨-, ⟨cellB, hcB, hoB, hclB⟩, hPc⟩ := hp
  intro T hT X
  rcases vx_callVX X hx (C := C) (hh := hh) (bytes := bytes) (maxL := maxL) (ret := ret) ho hl hin hse hcode hy hK (by rw [hT]; exact hcB) hoB hclB hg (hsize.trans hml.symm) (argsL := As) (rest := rest) (fun sig h => hn.trans (hlen sig h)) hstack hW (by rw [hb]; exact hdg)
    (fun vm₁ hW₁ => ⟨hf.1, hf.2, hPc (T.setVm vm₁) hT hW₁⟩) with ⟨v, vm₁, ⟨U', l2, c2, s2⟩, hW₁, X', ⟨g', mk, t, L, e1, e2, hq, h1, hL, h2, h3⟩, st⟩ | ⟨q, vm₁, ⟨U', l2, c2, s2⟩, hW₁, X', ⟨g', mk, t, L, E, ce, e1, e2, hq, hce, hcv, hcl, h1, hL, h2, h3⟩, st⟩
  · dsimp only [Pt.U, Pt.locs, Pt.cells, Pt.slots] at X' e1 e2 h1 h2 h3 st
    subst h1; subst h2; subst h3
    exact Or.inl ⟨v, (T.setVm vm₁).calling g' mk (Value.ref b :: As).toArray, t, U', L, hT, X', hL, e1, e2, hq, st⟩
  · dsimp only [Pt.U, Pt.locs, Pt.cells, Pt.slots] at X' e1 e2 h1 h2 h3 st hcl
    subst h1; subst h2; subst h3
    exact Or.inr ⟨q, (T.setVm vm₁).calling g' mk (Value.ref b :: As).toArray, t, U', L, E, ce, hT, X', hL, e1, e2, hq, hce, hcv, vx_cls hW₁ hcl, st⟩
theorem vx_runSX {hh : List (Nat × Nat × Nat × Nat)} (S : CallFix p m c cc nL s args Ts own) (hM : vx_Met l y ws rm Pc Qc XC mc ms free) (cw : vx_CSW R s args own index y bytes maxL ret hh ws rm mc ms n) (hp : PreS s H Pc As)
    (hg : g.method = m) (hn : As.length = n) (hsize : g.locals.size = nL) (hstack : g.stack = As.reverse ++ rest) (hW : 2 * g.monitorRoom + (rest.map fun v => v.category).sum ≤ 8) (hdg : decode cc g.pc = .ok (.invokestatic index, 3)) (hf : cells + mc ≤ R.cells ∧ slots + ms ≤ R.slots) :
    vx_Run p l e R s m args below meth c H locs cells slots mc ms g rest (Qc As.toArray) XC free := by
  obtain ⟨⟨hrc, hrs, hfr, hlo, hws, hcw⟩, hcode, hini, hy, hlen, hl, hstt⟩ := cw
  have hK : vx_Back l R p e below s args y 3 8 (PreOf R mc ms Pc) (PostOf Qc mc ms free) (vx_Post XC mc ms free) := vx_backW (hh := hh) (bytes := bytes) (maxL := maxL) (ret := ret) hM hp.1 hrc hrs hfr hlo hws hcw (fun a' U hW => word_at hW (Or.inl (by first | rfl | simp [Cond.onTables, Cond.keeps, Cond.steady])) hini)
  obtain ⟨hx, hb, hml, ho, -⟩ := S
  intro T hT X
  rcases vx_callSX X hx (hh := hh) (bytes := bytes) (maxL := maxL) (ret := ret) ho hl hstt hini hcode hy hK hg (hsize.trans hml.symm) (argsL := As) (rest := rest) (fun sig h => hn.trans (hlen sig h)) hstack hW (by rw [hb]; exact hdg)
    (fun vm₁ hW₁ => ⟨hf.1, hf.2, hp.2 (T.setVm vm₁) hT hW₁⟩) with ⟨v, vm₁, ⟨U', l2, c2, s2⟩, hW₁, X', ⟨g', mk, t, L, e1, e2, hq, h1, hL, h2, h3⟩, st⟩ | ⟨q, vm₁, ⟨U', l2, c2, s2⟩, hW₁, X', ⟨g', mk, t, L, E, ce, e1, e2, hq, hce, hcv, hcl, h1, hL, h2, h3⟩, st⟩
  · dsimp only [Pt.U, Pt.locs, Pt.cells, Pt.slots] at X' e1 e2 h1 h2 h3 st
    subst h1; subst h2; subst h3
    exact Or.inl ⟨v, (T.setVm vm₁).calling g' mk As.toArray, t, U', L, hT, X', hL, e1, e2, hq, st⟩
  · dsimp only [Pt.U, Pt.locs, Pt.cells, Pt.slots] at X' e1 e2 h1 h2 h3 st hcl
    subst h1; subst h2; subst h3
    exact Or.inr ⟨q, (T.setVm vm₁).calling g' mk As.toArray, t, U', L, E, ce, hT, X', hL, e1, e2, hq, hce, hcv, vx_cls hW₁ hcl, st⟩
end
end VXH
theorem vx_ofWH {l : Launch} {y : MethodName} {ws ws' : List Cond} {rm : Room} {Pc : Array Value → State → Prop} {Qc : Array Value → State → Outcome → State → Prop} {XC : String → State → State → Prop} {mc ms : Nat} {free : Addr → Prop} {cc : ByteArray} {maxL : Nat} {ret : Option FieldType} {hh : List (Nat × Nat × Nat × Nat)}
    (hy : plainName y.cls = true) (hw : ws = Cond.codeWith y cc maxL ret hh :: ws')
    (body : ∀ p e s m args below meth c s₁, BodyLoose p l y (headSpec ws rm) cc maxL ret e s m args below meth c s₁ → c.maxLocals = maxL → Pc args s →
      W p l e (headSpec ws rm).room s m args below meth c s.heap [] 0 0 (vx_MQ below Qc XC args s mc ms free) (entryFrame m args maxL)) : vx_Met l y ws rm Pc Qc XC mc ms free := by
  refine MetFree.of_bodyS (code := cc) (maxLocals := maxL) (ret := ret) hy ?_ ?_
  · intro args s m h hn
    obtain ⟨m9, meth, c, hn9, h1, h2, h3, h4, -, h5, h6, -⟩ := Cond.codeWith_spec (atoms_spec (ws := ws) h _ (by rw [hw]; exact List.mem_cons_self))
    cases hn.symm.trans hn9
    exact ⟨meth, c, h1, h2, h3, h4, h5, h6⟩
  · intro p e s m args below meth c s₁ B hml hP _
    have hh0 : s₁.heap = s.heap := by rw [B.state]; rfl
    obtain ⟨t, a1, o, b1, b2, b3⟩ := body p e s m args below meth c s₁ B hml hP s₁ hh0 (Stand.of_body B)
    exact ⟨t, o, a1, b1, b2, b3⟩
/-! ===== END ===== -/
end
section
/-! ===== BEGIN printed: names, fields, word lists, decode rows ===== -/
def RX0 : String := "SchemaSubjects$Field"
def TX0 : u_T := fun k => match k with
  | 0 => ("SchemaSubjects$Field", "name", "I", true)
  | 1 => ("SchemaSubjects$Field", "type", "I", true)
  | 2 => ("SchemaSubjects$Field", "size", "I", true)
  | 3 => ("SchemaSubjects$Field", "alias", "I", true)
  | 4 => ("SchemaSubjects$Field", "reference", "I", true)
  | 5 => ("SchemaSubjects$Field", "referred", "LSchemaSubjects$Schema;", true)
  | 6 => ("SchemaSubjects$Field", "begin", "I", false)
  | 7 => ("SchemaSubjects$Field", "hasDefault", "Z", false)
  | _ => ("SchemaSubjects$Field", "defaultNumber", "I", false)
def tyX0 : Nat → FieldType := fun k => match k with
  | 0 => .int
  | 1 => .int
  | 2 => .int
  | 3 => .int
  | 4 => .int
  | 5 => .object "SchemaSubjects$Schema"
  | 6 => .int
  | 7 => .boolean
  | _ => .int
abbrev wsX00 : List Cond := u_ws RX0 TX0 9
theorem nmX0 : ∀ a, a < 9 → ∀ b, b < 9 → a ≠ b → (TX0 a).2.1 ≠ (TX0 b).2.1 := by decide +kernel
theorem tyX0_ok : ∀ k, k < 9 → parseFieldDescriptor (TX0 k).2.2.1 = some (tyX0 k) := by decide +kernel
abbrev cX0_init : ByteArray := prog_2_method_1_code
def yX0_init : MethodName := ⟨RX0, "<init>", "(IIIIILSchemaSubjects$Schema;)V"⟩
abbrev cX0_isReadFromType : ByteArray := prog_2_method_2_code
def yX0_isReadFromType : MethodName := ⟨RX0, "isReadFromType", "(I)Z"⟩
abbrev cX0_isLike : ByteArray := prog_2_method_3_code
def yX0_isLike : MethodName := ⟨RX0, "isLike", "(LSchemaSubjects$Field;)Z"⟩
def RX1 : String := "SchemaSubjects$Row"
def TX1 : u_T := fun k => match k with
  | 0 => ("SchemaSubjects$Row", "numbers", "[I", true)
  | _ => ("SchemaSubjects$Row", "used", "I", false)
def tyX1 : Nat → FieldType := fun k => match k with
  | 0 => .array .int
  | _ => .int
abbrev wsX10 : List Cond := u_ws RX1 TX1 2
theorem nmX1 : ∀ a, a < 2 → ∀ b, b < 2 → a ≠ b → (TX1 a).2.1 ≠ (TX1 b).2.1 := by decide +kernel
theorem tyX1_ok : ∀ k, k < 2 → parseFieldDescriptor (TX1 k).2.2.1 = some (tyX1 k) := by decide +kernel
abbrev cX1_init : ByteArray := prog_3_method_1_code
def yX1_init : MethodName := ⟨RX1, "<init>", "()V"⟩
abbrev cX1_count : ByteArray := prog_3_method_2_code
def yX1_count : MethodName := ⟨RX1, "count", "()I"⟩
abbrev cX1_at : ByteArray := prog_3_method_3_code
def yX1_at : MethodName := ⟨RX1, "at", "(I)I"⟩
abbrev cX1_add : ByteArray := prog_3_method_4_code
def yX1_add : MethodName := ⟨RX1, "add", "(I)V"⟩
abbrev cX1_addAll : ByteArray := prog_3_method_5_code
def yX1_addAll : MethodName := ⟨RX1, "addAll", "(LSchemaSubjects$Row;)V"⟩
abbrev cX1_empty : ByteArray := prog_3_method_6_code
def yX1_empty : MethodName := ⟨RX1, "empty", "()V"⟩
def RX2 : String := "SchemaSubjects$Schema"
def TX2 : u_T := fun k => match k with
  | 0 => ("SchemaSubjects$Schema", "fields", "Ljava/util/ArrayList;", true)
  | 1 => ("SchemaSubjects$Schema", "places", "LSchemaSubjects$Row;", true)
  | _ => ("SchemaSubjects$Schema", "rank", "I", false)
def tyX2 : Nat → FieldType := fun k => match k with
  | 0 => .object "java/util/ArrayList"
  | 1 => .object "SchemaSubjects$Row"
  | _ => .int
abbrev wsX20 : List Cond := u_ws RX2 TX2 3
theorem nmX2 : ∀ a, a < 3 → ∀ b, b < 3 → a ≠ b → (TX2 a).2.1 ≠ (TX2 b).2.1 := by decide +kernel
theorem tyX2_ok : ∀ k, k < 3 → parseFieldDescriptor (TX2 k).2.2.1 = some (tyX2 k) := by decide +kernel
abbrev cX2_init : ByteArray := prog_4_method_1_code
def yX2_init : MethodName := ⟨RX2, "<init>", "()V"⟩
abbrev cX2_append : ByteArray := prog_4_method_2_code
def yX2_append : MethodName := ⟨RX2, "append", "(LSchemaSubjects$Field;)V"⟩
abbrev cX2_empty : ByteArray := prog_4_method_3_code
def yX2_empty : MethodName := ⟨RX2, "empty", "()V"⟩
abbrev cX2_last : ByteArray := prog_4_method_4_code
def yX2_last : MethodName := ⟨RX2, "last", "()LSchemaSubjects$Field;"⟩
abbrev cX2_named : ByteArray := prog_4_method_5_code
def yX2_named : MethodName := ⟨RX2, "named", "(I)LSchemaSubjects$Field;"⟩
abbrev cX2_sourceOf : ByteArray := prog_4_method_6_code
def yX2_sourceOf : MethodName := ⟨RX2, "sourceOf", "(LSchemaSubjects$Field;)LSchemaSubjects$Field;"⟩
abbrev cX2_refersTo : ByteArray := prog_4_method_7_code
def yX2_refersTo : MethodName := ⟨RX2, "refersTo", "(I)Z"⟩
abbrev cX2_isLike : ByteArray := prog_4_method_8_code
def yX2_isLike : MethodName := ⟨RX2, "isLike", "(LSchemaSubjects$Schema;)Z"⟩
def RX3 : String := "SchemaSubjects$Subject"
def TX3 : u_T := fun k => match k with
  | 0 => ("SchemaSubjects$Subject", "history", "Ljava/util/ArrayList;", true)
  | 1 => ("SchemaSubjects$Subject", "mode", "I", false)
  | _ => ("SchemaSubjects$Subject", "asksForAll", "Z", false)
def tyX3 : Nat → FieldType := fun k => match k with
  | 0 => .object "java/util/ArrayList"
  | 1 => .int
  | _ => .boolean
abbrev wsX30 : List Cond := u_ws RX3 TX3 3
theorem nmX3 : ∀ a, a < 3 → ∀ b, b < 3 → a ≠ b → (TX3 a).2.1 ≠ (TX3 b).2.1 := by decide +kernel
theorem tyX3_ok : ∀ k, k < 3 → parseFieldDescriptor (TX3 k).2.2.1 = some (tyX3 k) := by decide +kernel
abbrev cX3_init : ByteArray := prog_5_method_1_code
def yX3_init : MethodName := ⟨RX3, "<init>", "()V"⟩
abbrev cX3_keptVersion : ByteArray := prog_5_method_2_code
def yX3_keptVersion : MethodName := ⟨RX3, "keptVersion", "(I)LSchemaSubjects$Version;"⟩
abbrev cX3_countThere : ByteArray := prog_5_method_3_code
def yX3_countThere : MethodName := ⟨RX3, "countThere", "()I"⟩
abbrev cX3_lowestLike : ByteArray := prog_5_method_4_code
def yX3_lowestLike : MethodName := ⟨RX3, "lowestLike", "(LSchemaSubjects$Schema;)I"⟩
abbrev cX3_refersTo : ByteArray := prog_5_method_5_code
def yX3_refersTo : MethodName := ⟨RX3, "refersTo", "(I)Z"⟩
abbrev cX3_accepts : ByteArray := prog_5_method_6_code
def yX3_accepts : MethodName := ⟨RX3, "accepts", "(LSchemaSubjects$Schema;)Z"⟩
abbrev cX3_agrees : ByteArray := prog_5_method_7_code
def yX3_agrees : MethodName := ⟨RX3, "agrees", "(LSchemaSubjects$Schema;LSchemaSubjects$Schema;)Z"⟩
def RX4 : String := "SchemaSubjects$Version"
def TX4 : u_T := fun k => match k with
  | 0 => ("SchemaSubjects$Version", "schema", "LSchemaSubjects$Schema;", true)
  | _ => ("SchemaSubjects$Version", "state", "I", false)
def tyX4 : Nat → FieldType := fun k => match k with
  | 0 => .object "SchemaSubjects$Schema"
  | _ => .int
abbrev wsX40 : List Cond := u_ws RX4 TX4 2
theorem nmX4 : ∀ a, a < 2 → ∀ b, b < 2 → a ≠ b → (TX4 a).2.1 ≠ (TX4 b).2.1 := by decide +kernel
theorem tyX4_ok : ∀ k, k < 2 → parseFieldDescriptor (TX4 k).2.2.1 = some (tyX4 k) := by decide +kernel
abbrev cX4_init : ByteArray := prog_6_method_1_code
def yX4_init : MethodName := ⟨RX4, "<init>", "(LSchemaSubjects$Schema;)V"⟩
def RX5 : String := "SchemaSubjects"
def TX5 : u_T := fun k => match k with
  | 0 => ("SchemaSubjects", "subjects", "Ljava/util/ArrayList;", true)
  | 1 => ("SchemaSubjects", "numbered", "Ljava/util/ArrayList;", true)
  | 2 => ("SchemaSubjects", "draft", "LSchemaSubjects$Schema;", false)
  | 3 => ("SchemaSubjects", "recordDraft", "LSchemaSubjects$Row;", false)
  | 4 => ("SchemaSubjects", "spare", "LSchemaSubjects$Row;", false)
  | _ => ("SchemaSubjects", "trial", "LSchemaSubjects$Row;", true)
def tyX5 : Nat → FieldType := fun k => match k with
  | 0 => .object "java/util/ArrayList"
  | 1 => .object "java/util/ArrayList"
  | 2 => .object "SchemaSubjects$Schema"
  | 3 => .object "SchemaSubjects$Row"
  | 4 => .object "SchemaSubjects$Row"
  | _ => .object "SchemaSubjects$Row"
abbrev wsX50 : List Cond := u_ws RX5 TX5 6
theorem nmX5 : ∀ a, a < 6 → ∀ b, b < 6 → a ≠ b → (TX5 a).2.1 ≠ (TX5 b).2.1 := by decide +kernel
theorem tyX5_ok : ∀ k, k < 6 → parseFieldDescriptor (TX5 k).2.2.1 = some (tyX5 k) := by decide +kernel
abbrev cX5_init : ByteArray := prog_1_method_1_code
def yX5_init : MethodName := ⟨RX5, "<init>", "()V"⟩
abbrev cX5_field : ByteArray := prog_1_method_2_code
def yX5_field : MethodName := ⟨RX5, "field", "(IIII)I"⟩
abbrev cX5_byDefault : ByteArray := prog_1_method_3_code
def yX5_byDefault : MethodName := ⟨RX5, "byDefault", "(I)I"⟩
abbrev cX5_discard : ByteArray := prog_1_method_4_code
def yX5_discard : MethodName := ⟨RX5, "discard", "()I"⟩
abbrev cX5_isAccepted : ByteArray := prog_1_method_5_code
def yX5_isAccepted : MethodName := ⟨RX5, "isAccepted", "(I)Z"⟩
abbrev cX5_register : ByteArray := prog_1_method_6_code
def yX5_register : MethodName := ⟨RX5, "register", "(I)I"⟩
abbrev cX5_setMode : ByteArray := prog_1_method_7_code
def yX5_setMode : MethodName := ⟨RX5, "setMode", "(IIZ)I"⟩
abbrev cX5_delete : ByteArray := prog_1_method_8_code
def yX5_delete : MethodName := ⟨RX5, "delete", "(IIZ)I"⟩
abbrev cX5_versions : ByteArray := prog_1_method_9_code
def yX5_versions : MethodName := ⟨RX5, "versions", "(I)I"⟩
abbrev cX5_number : ByteArray := prog_1_method_10_code
def yX5_number : MethodName := ⟨RX5, "number", "(II)I"⟩
abbrev cX5_isThere : ByteArray := prog_1_method_11_code
def yX5_isThere : MethodName := ⟨RX5, "isThere", "(II)Z"⟩
abbrev cX5_length : ByteArray := prog_1_method_12_code
def yX5_length : MethodName := ⟨RX5, "length", "(II)I"⟩
abbrev cX5_canRead : ByteArray := prog_1_method_13_code
def yX5_canRead : MethodName := ⟨RX5, "canRead", "(IIII)Z"⟩
abbrev cX5_readsAll : ByteArray := prog_1_method_14_code
def yX5_readsAll : MethodName := ⟨RX5, "readsAll", "(IIII)Z"⟩
abbrev cX5_value : ByteArray := prog_1_method_15_code
def yX5_value : MethodName := ⟨RX5, "value", "(I)I"⟩
abbrev cX5_clear : ByteArray := prog_1_method_16_code
def yX5_clear : MethodName := ⟨RX5, "clear", "()I"⟩
abbrev cX5_isRecord : ByteArray := prog_1_method_17_code
def yX5_isRecord : MethodName := ⟨RX5, "isRecord", "(II)Z"⟩
abbrev cX5_read : ByteArray := prog_1_method_18_code
def yX5_read : MethodName := ⟨RX5, "read", "(IIII)I"⟩
abbrev cX5_valueAt : ByteArray := prog_1_method_19_code
def yX5_valueAt : MethodName := ⟨RX5, "valueAt", "(I)I"⟩
abbrev cX5_demandedSubject : ByteArray := prog_1_method_20_code
def yX5_demandedSubject : MethodName := ⟨RX5, "demandedSubject", "(I)LSchemaSubjects$Subject;"⟩
abbrev cX5_demandSubjects : ByteArray := prog_1_method_21_code
def yX5_demandSubjects : MethodName := ⟨RX5, "demandSubjects", "(II)V"⟩
abbrev cX5_demandedVersion : ByteArray := prog_1_method_22_code
def yX5_demandedVersion : MethodName := ⟨RX5, "demandedVersion", "(LSchemaSubjects$Subject;I)LSchemaSubjects$Version;"⟩
abbrev cX5_demandedSchema : ByteArray := prog_1_method_23_code
def yX5_demandedSchema : MethodName := ⟨RX5, "demandedSchema", "(II)LSchemaSubjects$Schema;"⟩
abbrev cX5_demandDraft : ByteArray := prog_1_method_24_code
def yX5_demandDraft : MethodName := ⟨RX5, "demandDraft", "()V"⟩
abbrev cX5_isName : ByteArray := prog_1_method_25_code
def yX5_isName : MethodName := ⟨RX5, "isName", "(I)Z"⟩
abbrev cX5_isType : ByteArray := prog_1_method_26_code
def yX5_isType : MethodName := ⟨RX5, "isType", "(I)Z"⟩
abbrev cX5_isSize : ByteArray := prog_1_method_27_code
def yX5_isSize : MethodName := ⟨RX5, "isSize", "(I)Z"⟩
abbrev cX5_sizeOf : ByteArray := prog_1_method_28_code
def yX5_sizeOf : MethodName := ⟨RX5, "sizeOf", "(II)I"⟩
abbrev cX5_isOfSize : ByteArray := prog_1_method_29_code
def yX5_isOfSize : MethodName := ⟨RX5, "isOfSize", "(II)Z"⟩
abbrev cX5_referable : ByteArray := prog_1_method_30_code
def yX5_referable : MethodName := ⟨RX5, "referable", "(I)LSchemaSubjects$Schema;"⟩
abbrev cX5_isReferredTo : ByteArray := prog_1_method_31_code
def yX5_isReferredTo : MethodName := ⟨RX5, "isReferredTo", "(I)Z"⟩
abbrev cX5_takeDraft : ByteArray := prog_1_method_32_code
def yX5_takeDraft : MethodName := ⟨RX5, "takeDraft", "()LSchemaSubjects$Schema;"⟩
abbrev cX5_canReadSchema : ByteArray := prog_1_method_33_code
def yX5_canReadSchema : MethodName := ⟨RX5, "canReadSchema", "(LSchemaSubjects$Schema;LSchemaSubjects$Schema;I)Z"⟩
abbrev cX5_canReadField : ByteArray := prog_1_method_34_code
def yX5_canReadField : MethodName := ⟨RX5, "canReadField", "(LSchemaSubjects$Field;LSchemaSubjects$Schema;I)Z"⟩
abbrev cX5_isRecordOf : ByteArray := prog_1_method_35_code
def yX5_isRecordOf : MethodName := ⟨RX5, "isRecordOf", "(LSchemaSubjects$Schema;)Z"⟩
abbrev cX5_readSchema : ByteArray := prog_1_method_36_code
def yX5_readSchema : MethodName := ⟨RX5, "readSchema", "(LSchemaSubjects$Schema;LSchemaSubjects$Schema;LSchemaSubjects$Row;ILSchemaSubjects$Row;I)Z"⟩
abbrev cX5_readField : ByteArray := prog_1_method_37_code
def yX5_readField : MethodName := ⟨RX5, "readField", "(LSchemaSubjects$Field;LSchemaSubjects$Schema;LSchemaSubjects$Row;ILSchemaSubjects$Row;I)Z"⟩
abbrev cX5_readDefault : ByteArray := prog_1_method_38_code
def yX5_readDefault : MethodName := ⟨RX5, "readDefault", "(LSchemaSubjects$Field;LSchemaSubjects$Row;)Z"⟩
abbrev cX5_countSmallRecords : ByteArray := prog_1_method_39_code
def yX5_countSmallRecords : MethodName := ⟨RX5, "countSmallRecords", "(LSchemaSubjects$Row;)I"⟩
abbrev cX5_putSmallRecord : ByteArray := prog_1_method_40_code
def yX5_putSmallRecord : MethodName := ⟨RX5, "putSmallRecord", "(LSchemaSubjects$Row;LSchemaSubjects$Row;I)V"⟩
def RX6 : String := "SchemaSubjectsModel"
def TX6 : u_T := fun k => match k with
  | 0 => ("SchemaSubjectsModel", "thrown", "I", false)
  | 1 => ("SchemaSubjectsModel", "names", "[I", true)
  | 2 => ("SchemaSubjectsModel", "types", "[I", true)
  | 3 => ("SchemaSubjectsModel", "details", "[I", true)
  | 4 => ("SchemaSubjectsModel", "aliases", "[I", true)
  | 5 => ("SchemaSubjectsModel", "haveDefaults", "[Z", true)
  | 6 => ("SchemaSubjectsModel", "defaults", "[I", true)
  | 7 => ("SchemaSubjectsModel", "sizes", "[I", true)
  | 8 => ("SchemaSubjectsModel", "lengths", "[I", true)
  | 9 => ("SchemaSubjectsModel", "schemas", "I", false)
  | 10 => ("SchemaSubjectsModel", "can", "[Z", true)
  | 11 => ("SchemaSubjectsModel", "numbers", "[I", true)
  | 12 => ("SchemaSubjectsModel", "states", "[I", true)
  | 13 => ("SchemaSubjectsModel", "counts", "[I", true)
  | 14 => ("SchemaSubjectsModel", "modes", "[I", true)
  | 15 => ("SchemaSubjectsModel", "areAll", "[Z", true)
  | 16 => ("SchemaSubjectsModel", "filled", "I", false)
  | 17 => ("SchemaSubjectsModel", "record", "[I", true)
  | 18 => ("SchemaSubjectsModel", "done", "[I", true)
  | 19 => ("SchemaSubjectsModel", "readers", "[I", true)
  | 20 => ("SchemaSubjectsModel", "writers", "[I", true)
  | 21 => ("SchemaSubjectsModel", "nexts", "[I", true)
  | _ => ("SchemaSubjectsModel", "begins", "[I", true)
def tyX6 : Nat → FieldType := fun k => match k with
  | 0 => .int
  | 1 => .array .int
  | 2 => .array .int
  | 3 => .array .int
  | 4 => .array .int
  | 5 => .array .boolean
  | 6 => .array .int
  | 7 => .array .int
  | 8 => .array .int
  | 9 => .int
  | 10 => .array .boolean
  | 11 => .array .int
  | 12 => .array .int
  | 13 => .array .int
  | 14 => .array .int
  | 15 => .array .boolean
  | 16 => .int
  | 17 => .array .int
  | 18 => .array .int
  | 19 => .array .int
  | 20 => .array .int
  | 21 => .array .int
  | _ => .array .int
abbrev wsX60 : List Cond := u_ws RX6 TX6 23
theorem nmX6 : ∀ a, a < 23 → ∀ b, b < 23 → a ≠ b → (TX6 a).2.1 ≠ (TX6 b).2.1 := by decide +kernel
theorem tyX6_ok : ∀ k, k < 23 → parseFieldDescriptor (TX6 k).2.2.1 = some (tyX6 k) := by decide +kernel
abbrev cX6_init : ByteArray := prog_8_method_1_code
def yX6_init : MethodName := ⟨RX6, "<init>", "()V"⟩
abbrev cX6_thrown : ByteArray := prog_8_method_2_code
def yX6_thrown : MethodName := ⟨RX6, "thrown", "()I"⟩
abbrev cX6_holds : ByteArray := prog_8_method_3_code
def yX6_holds : MethodName := ⟨RX6, "holds", "(I)Z"⟩
abbrev cX6_in : ByteArray := prog_8_method_4_code
def yX6_in : MethodName := ⟨RX6, "in", "(III)Z"⟩
abbrev cX6_isSubject : ByteArray := prog_8_method_5_code
def yX6_isSubject : MethodName := ⟨RX6, "isSubject", "(I)Z"⟩
abbrev cX6_isVersion : ByteArray := prog_8_method_6_code
def yX6_isVersion : MethodName := ⟨RX6, "isVersion", "(II)Z"⟩
abbrev cX6_isThereAt : ByteArray := prog_8_method_7_code
def yX6_isThereAt : MethodName := ⟨RX6, "isThereAt", "(II)Z"⟩
abbrev cX6_schemaOf : ByteArray := prog_8_method_8_code
def yX6_schemaOf : MethodName := ⟨RX6, "schemaOf", "(I)I"⟩
abbrev cX6_isRange : ByteArray := prog_8_method_9_code
def yX6_isRange : MethodName := ⟨RX6, "isRange", "(IIII)Z"⟩
abbrev cX6_named : ByteArray := prog_8_method_10_code
def yX6_named : MethodName := ⟨RX6, "named", "(II)I"⟩
abbrev cX6_errorOfField : ByteArray := prog_8_method_11_code
def yX6_errorOfField : MethodName := ⟨RX6, "errorOfField", "(IIII)I"⟩
abbrev cX6_field : ByteArray := prog_8_method_12_code
def yX6_field : MethodName := ⟨RX6, "field", "(IIII)I"⟩
abbrev cX6_isValue : ByteArray := prog_8_method_13_code
def yX6_isValue : MethodName := ⟨RX6, "isValue", "(II)Z"⟩
abbrev cX6_byDefault : ByteArray := prog_8_method_14_code
def yX6_byDefault : MethodName := ⟨RX6, "byDefault", "(I)I"⟩
abbrev cX6_empties : ByteArray := prog_8_method_15_code
def yX6_empties : MethodName := ⟨RX6, "empties", "()V"⟩
abbrev cX6_discard : ByteArray := prog_8_method_16_code
def yX6_discard : MethodName := ⟨RX6, "discard", "()I"⟩
abbrev cX6_isLike : ByteArray := prog_8_method_17_code
def yX6_isLike : MethodName := ⟨RX6, "isLike", "(I)Z"⟩
abbrev cX6_source : ByteArray := prog_8_method_18_code
def yX6_source : MethodName := ⟨RX6, "source", "(II)I"⟩
abbrev cX6_isRead : ByteArray := prog_8_method_19_code
def yX6_isRead : MethodName := ⟨RX6, "isRead", "(II)Z"⟩
abbrev cX6_canReadNow : ByteArray := prog_8_method_20_code
def yX6_canReadNow : MethodName := ⟨RX6, "canReadNow", "(II)Z"⟩
abbrev cX6_tells : ByteArray := prog_8_method_21_code
def yX6_tells : MethodName := ⟨RX6, "tells", "()V"⟩
abbrev cX6_isAcceptedBy : ByteArray := prog_8_method_22_code
def yX6_isAcceptedBy : MethodName := ⟨RX6, "isAcceptedBy", "(I)Z"⟩
abbrev cX6_isAccepted : ByteArray := prog_8_method_23_code
def yX6_isAccepted : MethodName := ⟨RX6, "isAccepted", "(I)Z"⟩
abbrev cX6_likeVersion : ByteArray := prog_8_method_24_code
def yX6_likeVersion : MethodName := ⟨RX6, "likeVersion", "(I)I"⟩
abbrev cX6_numbered : ByteArray := prog_8_method_25_code
def yX6_numbered : MethodName := ⟨RX6, "numbered", "()I"⟩
abbrev cX6_errorOfRegister : ByteArray := prog_8_method_26_code
def yX6_errorOfRegister : MethodName := ⟨RX6, "errorOfRegister", "(I)I"⟩
abbrev cX6_register : ByteArray := prog_8_method_27_code
def yX6_register : MethodName := ⟨RX6, "register", "(I)I"⟩
abbrev cX6_setMode : ByteArray := prog_8_method_28_code
def yX6_setMode : MethodName := ⟨RX6, "setMode", "(IIZ)I"⟩
abbrev cX6_refers : ByteArray := prog_8_method_29_code
def yX6_refers : MethodName := ⟨RX6, "refers", "(II)Z"⟩
abbrev cX6_isReferred : ByteArray := prog_8_method_30_code
def yX6_isReferred : MethodName := ⟨RX6, "isReferred", "(I)Z"⟩
abbrev cX6_errorOfDelete : ByteArray := prog_8_method_31_code
def yX6_errorOfDelete : MethodName := ⟨RX6, "errorOfDelete", "(IIZ)I"⟩
abbrev cX6_delete : ByteArray := prog_8_method_32_code
def yX6_delete : MethodName := ⟨RX6, "delete", "(IIZ)I"⟩
abbrev cX6_versions : ByteArray := prog_8_method_33_code
def yX6_versions : MethodName := ⟨RX6, "versions", "(I)I"⟩
abbrev cX6_isAsked : ByteArray := prog_8_method_34_code
def yX6_isAsked : MethodName := ⟨RX6, "isAsked", "(II)Z"⟩
abbrev cX6_number : ByteArray := prog_8_method_35_code
def yX6_number : MethodName := ⟨RX6, "number", "(II)I"⟩
abbrev cX6_isThere : ByteArray := prog_8_method_36_code
def yX6_isThere : MethodName := ⟨RX6, "isThere", "(II)Z"⟩
abbrev cX6_length : ByteArray := prog_8_method_37_code
def yX6_length : MethodName := ⟨RX6, "length", "(II)I"⟩
abbrev cX6_errorOfBoth : ByteArray := prog_8_method_38_code
def yX6_errorOfBoth : MethodName := ⟨RX6, "errorOfBoth", "(IIII)I"⟩
abbrev cX6_canOf : ByteArray := prog_8_method_39_code
def yX6_canOf : MethodName := ⟨RX6, "canOf", "(IIII)Z"⟩
abbrev cX6_canRead : ByteArray := prog_8_method_40_code
def yX6_canRead : MethodName := ⟨RX6, "canRead", "(IIII)Z"⟩
abbrev cX6_small : ByteArray := prog_8_method_41_code
def yX6_small : MethodName := ⟨RX6, "small", "(I)I"⟩
abbrev cX6_readsAll : ByteArray := prog_8_method_42_code
def yX6_readsAll : MethodName := ⟨RX6, "readsAll", "(IIII)Z"⟩
abbrev cX6_value : ByteArray := prog_8_method_43_code
def yX6_value : MethodName := ⟨RX6, "value", "(I)I"⟩
abbrev cX6_clear : ByteArray := prog_8_method_44_code
def yX6_clear : MethodName := ⟨RX6, "clear", "()I"⟩
abbrev cX6_isRecordOf : ByteArray := prog_8_method_45_code
def yX6_isRecordOf : MethodName := ⟨RX6, "isRecordOf", "(I)Z"⟩
abbrev cX6_isRecord : ByteArray := prog_8_method_46_code
def yX6_isRecord : MethodName := ⟨RX6, "isRecord", "(II)Z"⟩
abbrev cX6_ahead : ByteArray := prog_8_method_47_code
def yX6_ahead : MethodName := ⟨RX6, "ahead", "(II)I"⟩
abbrev cX6_reads : ByteArray := prog_8_method_48_code
def yX6_reads : MethodName := ⟨RX6, "reads", "(II)I"⟩
abbrev cX6_read : ByteArray := prog_8_method_49_code
def yX6_read : MethodName := ⟨RX6, "read", "(IIII)I"⟩
abbrev cX6_valueAt : ByteArray := prog_8_method_50_code
def yX6_valueAt : MethodName := ⟨RX6, "valueAt", "(I)I"⟩
def RJx145de : String := "java/io/Serializable"
def TJx145de : u_T := fun k => match k with
  | _ => ("", "", "", false)
def tyJx145de : Nat → FieldType := fun k => match k with
  | _ => .int
abbrev wsJx145de0 : List Cond := u_ws RJx145de TJx145de 0
theorem nmJx145de : ∀ a, a < 0 → ∀ b, b < 0 → a ≠ b → (TJx145de a).2.1 ≠ (TJx145de b).2.1 := by decide +kernel
theorem tyJx145de_ok : ∀ k, k < 0 → parseFieldDescriptor (TJx145de k).2.2.1 = some (tyJx145de k) := by decide +kernel
def RJx8e188 : String := "java/lang/Cloneable"
def TJx8e188 : u_T := fun k => match k with
  | _ => ("", "", "", false)
def tyJx8e188 : Nat → FieldType := fun k => match k with
  | _ => .int
abbrev wsJx8e1880 : List Cond := u_ws RJx8e188 TJx8e188 0
theorem nmJx8e188 : ∀ a, a < 0 → ∀ b, b < 0 → a ≠ b → (TJx8e188 a).2.1 ≠ (TJx8e188 b).2.1 := by decide +kernel
theorem tyJx8e188_ok : ∀ k, k < 0 → parseFieldDescriptor (TJx8e188 k).2.2.1 = some (tyJx8e188 k) := by decide +kernel
def RJxab1ab : String := "java/lang/Iterable"
def TJxab1ab : u_T := fun k => match k with
  | _ => ("", "", "", false)
def tyJxab1ab : Nat → FieldType := fun k => match k with
  | _ => .int
abbrev wsJxab1ab0 : List Cond := u_ws RJxab1ab TJxab1ab 0
theorem nmJxab1ab : ∀ a, a < 0 → ∀ b, b < 0 → a ≠ b → (TJxab1ab a).2.1 ≠ (TJxab1ab b).2.1 := by decide +kernel
theorem tyJxab1ab_ok : ∀ k, k < 0 → parseFieldDescriptor (TJxab1ab k).2.2.1 = some (tyJxab1ab k) := by decide +kernel
def RJ9 : String := "java/lang/Math"
def TJ9 : u_T := fun k => match k with
  | _ => ("", "", "", false)
def tyJ9 : Nat → FieldType := fun k => match k with
  | _ => .int
abbrev wsJ90 : List Cond := u_ws RJ9 TJ9 0
theorem nmJ9 : ∀ a, a < 0 → ∀ b, b < 0 → a ≠ b → (TJ9 a).2.1 ≠ (TJ9 b).2.1 := by decide +kernel
theorem tyJ9_ok : ∀ k, k < 0 → parseFieldDescriptor (TJ9 k).2.2.1 = some (tyJ9 k) := by decide +kernel
abbrev cJ9_max_7cf53 : ByteArray := prog_16_method_65_code
def yJ9_max_7cf53 : MethodName := ⟨RJ9, "max", "(II)I"⟩
abbrev cJ9_min_7cf53 : ByteArray := prog_16_method_69_code
def yJ9_min_7cf53 : MethodName := ⟨RJ9, "min", "(II)I"⟩
def RJ0 : String := "java/lang/String"
def TJ0 : u_T := fun k => match k with
  | _ => ("", "", "", false)
def tyJ0 : Nat → FieldType := fun k => match k with
  | _ => .int
abbrev wsJ00 : List Cond := u_ws RJ0 TJ0 0
theorem nmJ0 : ∀ a, a < 0 → ∀ b, b < 0 → a ≠ b → (TJ0 a).2.1 ≠ (TJ0 b).2.1 := by decide +kernel
theorem tyJ0_ok : ∀ k, k < 0 → parseFieldDescriptor (TJ0 k).2.2.1 = some (tyJ0 k) := by decide +kernel
def RJ10 : String := "java/lang/System"
def TJ10 : u_T := fun k => match k with
  | _ => ("", "", "", false)
def tyJ10 : Nat → FieldType := fun k => match k with
  | _ => .int
abbrev wsJ100 : List Cond := u_ws RJ10 TJ10 0
theorem nmJ10 : ∀ a, a < 0 → ∀ b, b < 0 → a ≠ b → (TJ10 a).2.1 ≠ (TJ10 b).2.1 := by decide +kernel
theorem tyJ10_ok : ∀ k, k < 0 → parseFieldDescriptor (TJ10 k).2.2.1 = some (tyJ10 k) := by decide +kernel
def RJxa1e45 : String := "java/util/AbstractCollection"
def TJxa1e45 : u_T := fun k => match k with
  | _ => ("", "", "", false)
def tyJxa1e45 : Nat → FieldType := fun k => match k with
  | _ => .int
abbrev wsJxa1e450 : List Cond := u_ws RJxa1e45 TJxa1e45 0
theorem nmJxa1e45 : ∀ a, a < 0 → ∀ b, b < 0 → a ≠ b → (TJxa1e45 a).2.1 ≠ (TJxa1e45 b).2.1 := by decide +kernel
theorem tyJxa1e45_ok : ∀ k, k < 0 → parseFieldDescriptor (TJxa1e45 k).2.2.1 = some (tyJxa1e45 k) := by decide +kernel
abbrev cJxa1e45_init_da8c8 : ByteArray := prog_21_method_1_code
def yJxa1e45_init_da8c8 : MethodName := ⟨RJxa1e45, "<init>", "()V"⟩
def RJxc12de : String := "java/util/AbstractList"
def TJxc12de : u_T := fun k => match k with
  | _ => ("", "", "", false)
def tyJxc12de : Nat → FieldType := fun k => match k with
  | _ => .int
abbrev wsJxc12de0 : List Cond := u_ws RJxc12de TJxc12de 0
theorem nmJxc12de : ∀ a, a < 0 → ∀ b, b < 0 → a ≠ b → (TJxc12de a).2.1 ≠ (TJxc12de b).2.1 := by decide +kernel
theorem tyJxc12de_ok : ∀ k, k < 0 → parseFieldDescriptor (TJxc12de k).2.2.1 = some (tyJxc12de k) := by decide +kernel
abbrev cJxc12de_init_da8c8 : ByteArray := prog_22_method_1_code
def yJxc12de_init_da8c8 : MethodName := ⟨RJxc12de, "<init>", "()V"⟩
def RJx4a65c : String := "java/util/ArrayList"
def TJx4a65c : u_T := fun k => match k with
  | 0 => ("java/util/AbstractList", "modCount", "I", false)
  | 1 => ("java/util/ArrayList", "elementData", "[Ljava/lang/Object;", false)
  | _ => ("java/util/ArrayList", "size", "I", false)
def tyJx4a65c : Nat → FieldType := fun k => match k with
  | 0 => .int
  | 1 => .array (.object "java/lang/Object")
  | _ => .int
abbrev wsJx4a65c0 : List Cond := u_ws RJx4a65c TJx4a65c 3
theorem nmJx4a65c : ∀ a, a < 3 → ∀ b, b < 3 → a ≠ b → (TJx4a65c a).2.1 ≠ (TJx4a65c b).2.1 := by decide +kernel
theorem tyJx4a65c_ok : ∀ k, k < 3 → parseFieldDescriptor (TJx4a65c k).2.2.1 = some (tyJx4a65c k) := by decide +kernel
abbrev cJx4a65c_init_da8c8 : ByteArray := prog_23_method_2_code
def yJx4a65c_init_da8c8 : MethodName := ⟨RJx4a65c, "<init>", "()V"⟩
abbrev cJx4a65c_grow_92f84 : ByteArray := prog_23_method_6_code
def yJx4a65c_grow_92f84 : MethodName := ⟨RJx4a65c, "grow", "(I)[Ljava/lang/Object;"⟩
abbrev cJx4a65c_grow_d5877 : ByteArray := prog_23_method_7_code
def yJx4a65c_grow_d5877 : MethodName := ⟨RJx4a65c, "grow", "()[Ljava/lang/Object;"⟩
abbrev cJx4a65c_size_8abf5 : ByteArray := prog_23_method_8_code
def yJx4a65c_size_8abf5 : MethodName := ⟨RJx4a65c, "size", "()I"⟩
abbrev cJx4a65c_isEmpty_aae02 : ByteArray := prog_23_method_9_code
def yJx4a65c_isEmpty_aae02 : MethodName := ⟨RJx4a65c, "isEmpty", "()Z"⟩
abbrev cJx4a65c_elementData_915e3 : ByteArray := prog_23_method_18_code
def yJx4a65c_elementData_915e3 : MethodName := ⟨RJx4a65c, "elementData", "(I)Ljava/lang/Object;"⟩
abbrev cJx4a65c_get_915e3 : ByteArray := prog_23_method_20_code
def yJx4a65c_get_915e3 : MethodName := ⟨RJx4a65c, "get", "(I)Ljava/lang/Object;"⟩
abbrev cJx4a65c_add_72be8 : ByteArray := prog_23_method_24_code
def yJx4a65c_add_72be8 : MethodName := ⟨RJx4a65c, "add", "(Ljava/lang/Object;[Ljava/lang/Object;I)V"⟩
abbrev cJx4a65c_add_9ea2d : ByteArray := prog_23_method_25_code
def yJx4a65c_add_9ea2d : MethodName := ⟨RJx4a65c, "add", "(Ljava/lang/Object;)Z"⟩
abbrev cJx4a65c_clear_da8c8 : ByteArray := prog_23_method_40_code
def yJx4a65c_clear_da8c8 : MethodName := ⟨RJx4a65c, "clear", "()V"⟩
def RJ7 : String := "java/util/Arrays"
def TJ7 : u_T := fun k => match k with
  | _ => ("", "", "", false)
def tyJ7 : Nat → FieldType := fun k => match k with
  | _ => .int
abbrev wsJ70 : List Cond := u_ws RJ7 TJ7 0
theorem nmJ7 : ∀ a, a < 0 → ∀ b, b < 0 → a ≠ b → (TJ7 a).2.1 ≠ (TJ7 b).2.1 := by decide +kernel
theorem tyJ7_ok : ∀ k, k < 0 → parseFieldDescriptor (TJ7 k).2.2.1 = some (tyJ7 k) := by decide +kernel
abbrev cJ7_copyOf_1904c : ByteArray := prog_24_method_119_code
def yJ7_copyOf_1904c : MethodName := ⟨RJ7, "copyOf", "([Ljava/lang/Object;I)[Ljava/lang/Object;"⟩
abbrev cJ7_copyOf_6403c : ByteArray := prog_24_method_120_code
def yJ7_copyOf_6403c : MethodName := ⟨RJ7, "copyOf", "([Ljava/lang/Object;ILjava/lang/Class;)[Ljava/lang/Object;"⟩
def RJx5ef63 : String := "java/util/Collection"
def TJx5ef63 : u_T := fun k => match k with
  | _ => ("", "", "", false)
def tyJx5ef63 : Nat → FieldType := fun k => match k with
  | _ => .int
abbrev wsJx5ef630 : List Cond := u_ws RJx5ef63 TJx5ef63 0
theorem nmJx5ef63 : ∀ a, a < 0 → ∀ b, b < 0 → a ≠ b → (TJx5ef63 a).2.1 ≠ (TJx5ef63 b).2.1 := by decide +kernel
theorem tyJx5ef63_ok : ∀ k, k < 0 → parseFieldDescriptor (TJx5ef63 k).2.2.1 = some (tyJx5ef63 k) := by decide +kernel
def RJxbd725 : String := "java/util/List"
def TJxbd725 : u_T := fun k => match k with
  | _ => ("", "", "", false)
def tyJxbd725 : Nat → FieldType := fun k => match k with
  | _ => .int
abbrev wsJxbd7250 : List Cond := u_ws RJxbd725 TJxbd725 0
theorem nmJxbd725 : ∀ a, a < 0 → ∀ b, b < 0 → a ≠ b → (TJxbd725 a).2.1 ≠ (TJxbd725 b).2.1 := by decide +kernel
theorem tyJxbd725_ok : ∀ k, k < 0 → parseFieldDescriptor (TJxbd725 k).2.2.1 = some (tyJxbd725 k) := by decide +kernel
def RJ15 : String := "java/util/Objects"
def TJ15 : u_T := fun k => match k with
  | _ => ("", "", "", false)
def tyJ15 : Nat → FieldType := fun k => match k with
  | _ => .int
abbrev wsJ150 : List Cond := u_ws RJ15 TJ15 0
theorem nmJ15 : ∀ a, a < 0 → ∀ b, b < 0 → a ≠ b → (TJ15 a).2.1 ≠ (TJ15 b).2.1 := by decide +kernel
theorem tyJ15_ok : ∀ k, k < 0 → parseFieldDescriptor (TJ15 k).2.2.1 = some (tyJ15 k) := by decide +kernel
abbrev cJ15_checkIndex_7cf53 : ByteArray := prog_27_method_17_code
def yJ15_checkIndex_7cf53 : MethodName := ⟨RJ15, "checkIndex", "(II)I"⟩
def RJxf0a74 : String := "java/util/RandomAccess"
def TJxf0a74 : u_T := fun k => match k with
  | _ => ("", "", "", false)
def tyJxf0a74 : Nat → FieldType := fun k => match k with
  | _ => .int
abbrev wsJxf0a740 : List Cond := u_ws RJxf0a74 TJxf0a74 0
theorem nmJxf0a74 : ∀ a, a < 0 → ∀ b, b < 0 → a ≠ b → (TJxf0a74 a).2.1 ≠ (TJxf0a74 b).2.1 := by decide +kernel
theorem tyJxf0a74_ok : ∀ k, k < 0 → parseFieldDescriptor (TJxf0a74 k).2.2.1 = some (tyJxf0a74 k) := by decide +kernel
def RJxa66e6 : String := "java/util/SequencedCollection"
def TJxa66e6 : u_T := fun k => match k with
  | _ => ("", "", "", false)
def tyJxa66e6 : Nat → FieldType := fun k => match k with
  | _ => .int
abbrev wsJxa66e60 : List Cond := u_ws RJxa66e6 TJxa66e6 0
theorem nmJxa66e6 : ∀ a, a < 0 → ∀ b, b < 0 → a ≠ b → (TJxa66e6 a).2.1 ≠ (TJxa66e6 b).2.1 := by decide +kernel
theorem tyJxa66e6_ok : ∀ k, k < 0 → parseFieldDescriptor (TJxa66e6 k).2.2.1 = some (tyJxa66e6 k) := by decide +kernel
def RJ8 : String := "jdk/internal/util/ArraysSupport"
def TJ8 : u_T := fun k => match k with
  | _ => ("", "", "", false)
def tyJ8 : Nat → FieldType := fun k => match k with
  | _ => .int
abbrev wsJ80 : List Cond := u_ws RJ8 TJ8 0
theorem nmJ8 : ∀ a, a < 0 → ∀ b, b < 0 → a ≠ b → (TJ8 a).2.1 ≠ (TJ8 b).2.1 := by decide +kernel
theorem tyJ8_ok : ∀ k, k < 0 → parseFieldDescriptor (TJ8 k).2.2.1 = some (tyJ8 k) := by decide +kernel
abbrev cJ8_newLength_cabcc : ByteArray := prog_30_method_27_code
def yJ8_newLength_cabcc : MethodName := ⟨RJ8, "newLength", "(III)I"⟩
abbrev cJ8_hugeLength_7cf53 : ByteArray := prog_30_method_28_code
def yJ8_hugeLength_7cf53 : MethodName := ⟨RJ8, "hugeLength", "(II)I"⟩
def RJ3 : String := "jdk/internal/util/Preconditions"
def TJ3 : u_T := fun k => match k with
  | _ => ("", "", "", false)
def tyJ3 : Nat → FieldType := fun k => match k with
  | _ => .int
abbrev wsJ30 : List Cond := u_ws RJ3 TJ3 0
theorem nmJ3 : ∀ a, a < 0 → ∀ b, b < 0 → a ≠ b → (TJ3 a).2.1 ≠ (TJ3 b).2.1 := by decide +kernel
theorem tyJ3_ok : ∀ k, k < 0 → parseFieldDescriptor (TJ3 k).2.2.1 = some (tyJ3 k) := by decide +kernel
abbrev cJ3_checkIndex_8e157 : ByteArray := prog_31_method_11_code
def yJ3_checkIndex_8e157 : MethodName := ⟨RJ3, "checkIndex", "(IILjava/util/function/BiFunction;)I"⟩
def RL : String := "SchemaSubjectsLaw"
abbrev cL_field : ByteArray := method_3_code
def yL_field : MethodName := ⟨RL, "field", "(LSchemaSubjects;IIII[J)I"⟩
abbrev cL_byDefault : ByteArray := method_4_code
def yL_byDefault : MethodName := ⟨RL, "byDefault", "(LSchemaSubjects;I[J)I"⟩
abbrev cL_isAccepted : ByteArray := method_5_code
def yL_isAccepted : MethodName := ⟨RL, "isAccepted", "(LSchemaSubjects;I[J)I"⟩
abbrev cL_register : ByteArray := method_6_code
def yL_register : MethodName := ⟨RL, "register", "(LSchemaSubjects;I[J)I"⟩
abbrev cL_setMode : ByteArray := method_7_code
def yL_setMode : MethodName := ⟨RL, "setMode", "(LSchemaSubjects;IIZ[J)I"⟩
abbrev cL_delete : ByteArray := method_8_code
def yL_delete : MethodName := ⟨RL, "delete", "(LSchemaSubjects;IIZ[J)I"⟩
abbrev cL_versions : ByteArray := method_9_code
def yL_versions : MethodName := ⟨RL, "versions", "(LSchemaSubjects;I[J)I"⟩
abbrev cL_number : ByteArray := method_10_code
def yL_number : MethodName := ⟨RL, "number", "(LSchemaSubjects;II[J)I"⟩
abbrev cL_isThere : ByteArray := method_11_code
def yL_isThere : MethodName := ⟨RL, "isThere", "(LSchemaSubjects;II[J)I"⟩
abbrev cL_length : ByteArray := method_12_code
def yL_length : MethodName := ⟨RL, "length", "(LSchemaSubjects;II[J)I"⟩
abbrev cL_canRead : ByteArray := method_13_code
def yL_canRead : MethodName := ⟨RL, "canRead", "(LSchemaSubjects;IIII[J)I"⟩
abbrev cL_readsAll : ByteArray := method_14_code
def yL_readsAll : MethodName := ⟨RL, "readsAll", "(LSchemaSubjects;IIII[J)I"⟩
abbrev cL_value : ByteArray := method_15_code
def yL_value : MethodName := ⟨RL, "value", "(LSchemaSubjects;I[J)I"⟩
abbrev cL_isRecord : ByteArray := method_16_code
def yL_isRecord : MethodName := ⟨RL, "isRecord", "(LSchemaSubjects;II[J)I"⟩
abbrev cL_read : ByteArray := method_17_code
def yL_read : MethodName := ⟨RL, "read", "(LSchemaSubjects;IIII[J)I"⟩
abbrev cL_valueAt : ByteArray := method_18_code
def yL_valueAt : MethodName := ⟨RL, "valueAt", "(LSchemaSubjects;I[J)I"⟩
abbrev cL_law : ByteArray := code
def yL_law : MethodName := ⟨RL, "law", "([I)Z"⟩
abbrev vwCl : List vw_C := [(RJx4a65c, TJx4a65c, 3), (RX0, TX0, 9), (RX1, TX1, 2), (RX2, TX2, 3), (RX3, TX3, 3), (RX4, TX4, 2), (RX5, TX5, 6), (RX6, TX6, 23)]
end
section
theorem dX0_init_0 : decode cX0_init 0 = .ok (.aload_n 0, 1) := by decide +kernel
theorem dX0_init_1 : decode cX0_init 1 = .ok (.invokespecial 3, 3) := by decide +kernel
theorem dX0_init_4 : decode cX0_init 4 = .ok (.aload_n 0, 1) := by decide +kernel
theorem dX0_init_5 : decode cX0_init 5 = .ok (.iload_n 1, 1) := by decide +kernel
theorem dX0_init_6 : decode cX0_init 6 = .ok (.putfield 9, 3) := by decide +kernel
theorem dX0_init_9 : decode cX0_init 9 = .ok (.aload_n 0, 1) := by decide +kernel
theorem dX0_init_10 : decode cX0_init 10 = .ok (.iload_n 2, 1) := by decide +kernel
theorem dX0_init_11 : decode cX0_init 11 = .ok (.putfield 15, 3) := by decide +kernel
theorem dX0_init_14 : decode cX0_init 14 = .ok (.aload_n 0, 1) := by decide +kernel
theorem dX0_init_15 : decode cX0_init 15 = .ok (.iload_n 3, 1) := by decide +kernel
theorem dX0_init_16 : decode cX0_init 16 = .ok (.putfield 18, 3) := by decide +kernel
theorem dX0_init_19 : decode cX0_init 19 = .ok (.aload_n 0, 1) := by decide +kernel
theorem dX0_init_20 : decode cX0_init 20 = .ok (.iload 4, 2) := by decide +kernel
theorem dX0_init_22 : decode cX0_init 22 = .ok (.putfield 21, 3) := by decide +kernel
theorem dX0_init_25 : decode cX0_init 25 = .ok (.aload_n 0, 1) := by decide +kernel
theorem dX0_init_26 : decode cX0_init 26 = .ok (.iload 5, 2) := by decide +kernel
theorem dX0_init_28 : decode cX0_init 28 = .ok (.putfield 24, 3) := by decide +kernel
theorem dX0_init_31 : decode cX0_init 31 = .ok (.aload_n 0, 1) := by decide +kernel
theorem dX0_init_32 : decode cX0_init 32 = .ok (.aload 6, 2) := by decide +kernel
theorem dX0_init_34 : decode cX0_init 34 = .ok (.putfield 27, 3) := by decide +kernel
theorem dX0_init_37 : decode cX0_init 37 = .ok (.return_, 1) := by decide +kernel
theorem dX0_isReadFromType_0 : decode cX0_isReadFromType 0 = .ok (.aload_n 0, 1) := by decide +kernel
theorem dX0_isReadFromType_1 : decode cX0_isReadFromType 1 = .ok (.getfield 15, 3) := by decide +kernel
theorem dX0_isReadFromType_4 : decode cX0_isReadFromType 4 = .ok (.iload_n 1, 1) := by decide +kernel
theorem dX0_isReadFromType_5 : decode cX0_isReadFromType 5 = .ok (.if_icmp .eq 15, 3) := by decide +kernel
theorem dX0_isReadFromType_8 : decode cX0_isReadFromType 8 = .ok (.aload_n 0, 1) := by decide +kernel
theorem dX0_isReadFromType_9 : decode cX0_isReadFromType 9 = .ok (.getfield 15, 3) := by decide +kernel
theorem dX0_isReadFromType_12 : decode cX0_isReadFromType 12 = .ok (.iconst 1, 1) := by decide +kernel
theorem dX0_isReadFromType_13 : decode cX0_isReadFromType 13 = .ok (.if_icmp .ne 11, 3) := by decide +kernel
theorem dX0_isReadFromType_16 : decode cX0_isReadFromType 16 = .ok (.iload_n 1, 1) := by decide +kernel
theorem dX0_isReadFromType_17 : decode cX0_isReadFromType 17 = .ok (.ifCond .ne 7, 3) := by decide +kernel
theorem dX0_isReadFromType_20 : decode cX0_isReadFromType 20 = .ok (.iconst 1, 1) := by decide +kernel
theorem dX0_isReadFromType_21 : decode cX0_isReadFromType 21 = .ok (.goto 4, 3) := by decide +kernel
theorem dX0_isReadFromType_24 : decode cX0_isReadFromType 24 = .ok (.iconst 0, 1) := by decide +kernel
theorem dX0_isReadFromType_25 : decode cX0_isReadFromType 25 = .ok (.ireturn, 1) := by decide +kernel
theorem dX0_isLike_0 : decode cX0_isLike 0 = .ok (.aload_n 0, 1) := by decide +kernel
theorem dX0_isLike_1 : decode cX0_isLike 1 = .ok (.getfield 9, 3) := by decide +kernel
theorem dX0_isLike_4 : decode cX0_isLike 4 = .ok (.aload_n 1, 1) := by decide +kernel
theorem dX0_isLike_5 : decode cX0_isLike 5 = .ok (.getfield 9, 3) := by decide +kernel
theorem dX0_isLike_8 : decode cX0_isLike 8 = .ok (.if_icmp .ne 73, 3) := by decide +kernel
theorem dX0_isLike_11 : decode cX0_isLike 11 = .ok (.aload_n 0, 1) := by decide +kernel
theorem dX0_isLike_12 : decode cX0_isLike 12 = .ok (.getfield 15, 3) := by decide +kernel
theorem dX0_isLike_15 : decode cX0_isLike 15 = .ok (.aload_n 1, 1) := by decide +kernel
theorem dX0_isLike_16 : decode cX0_isLike 16 = .ok (.getfield 15, 3) := by decide +kernel
theorem dX0_isLike_19 : decode cX0_isLike 19 = .ok (.if_icmp .ne 62, 3) := by decide +kernel
theorem dX0_isLike_22 : decode cX0_isLike 22 = .ok (.aload_n 0, 1) := by decide +kernel
theorem dX0_isLike_23 : decode cX0_isLike 23 = .ok (.getfield 18, 3) := by decide +kernel
theorem dX0_isLike_26 : decode cX0_isLike 26 = .ok (.aload_n 1, 1) := by decide +kernel
theorem dX0_isLike_27 : decode cX0_isLike 27 = .ok (.getfield 18, 3) := by decide +kernel
theorem dX0_isLike_30 : decode cX0_isLike 30 = .ok (.if_icmp .ne 51, 3) := by decide +kernel
theorem dX0_isLike_33 : decode cX0_isLike 33 = .ok (.aload_n 0, 1) := by decide +kernel
theorem dX0_isLike_34 : decode cX0_isLike 34 = .ok (.getfield 21, 3) := by decide +kernel
theorem dX0_isLike_37 : decode cX0_isLike 37 = .ok (.aload_n 1, 1) := by decide +kernel
theorem dX0_isLike_38 : decode cX0_isLike 38 = .ok (.getfield 21, 3) := by decide +kernel
theorem dX0_isLike_41 : decode cX0_isLike 41 = .ok (.if_icmp .ne 40, 3) := by decide +kernel
theorem dX0_isLike_44 : decode cX0_isLike 44 = .ok (.aload_n 0, 1) := by decide +kernel
theorem dX0_isLike_45 : decode cX0_isLike 45 = .ok (.getfield 24, 3) := by decide +kernel
theorem dX0_isLike_48 : decode cX0_isLike 48 = .ok (.aload_n 1, 1) := by decide +kernel
theorem dX0_isLike_49 : decode cX0_isLike 49 = .ok (.getfield 24, 3) := by decide +kernel
theorem dX0_isLike_52 : decode cX0_isLike 52 = .ok (.if_icmp .ne 29, 3) := by decide +kernel
theorem dX0_isLike_55 : decode cX0_isLike 55 = .ok (.aload_n 0, 1) := by decide +kernel
theorem dX0_isLike_56 : decode cX0_isLike 56 = .ok (.getfield 31, 3) := by decide +kernel
theorem dX0_isLike_59 : decode cX0_isLike 59 = .ok (.aload_n 1, 1) := by decide +kernel
theorem dX0_isLike_60 : decode cX0_isLike 60 = .ok (.getfield 31, 3) := by decide +kernel
theorem dX0_isLike_63 : decode cX0_isLike 63 = .ok (.if_icmp .ne 18, 3) := by decide +kernel
theorem dX0_isLike_66 : decode cX0_isLike 66 = .ok (.aload_n 0, 1) := by decide +kernel
theorem dX0_isLike_67 : decode cX0_isLike 67 = .ok (.getfield 35, 3) := by decide +kernel
theorem dX0_isLike_70 : decode cX0_isLike 70 = .ok (.aload_n 1, 1) := by decide +kernel
theorem dX0_isLike_71 : decode cX0_isLike 71 = .ok (.getfield 35, 3) := by decide +kernel
theorem dX0_isLike_74 : decode cX0_isLike 74 = .ok (.if_icmp .ne 7, 3) := by decide +kernel
theorem dX0_isLike_77 : decode cX0_isLike 77 = .ok (.iconst 1, 1) := by decide +kernel
theorem dX0_isLike_78 : decode cX0_isLike 78 = .ok (.goto 4, 3) := by decide +kernel
theorem dX0_isLike_81 : decode cX0_isLike 81 = .ok (.iconst 0, 1) := by decide +kernel
theorem dX0_isLike_82 : decode cX0_isLike 82 = .ok (.ireturn, 1) := by decide +kernel
theorem dX1_init_0 : decode cX1_init 0 = .ok (.aload_n 0, 1) := by decide +kernel
theorem dX1_init_1 : decode cX1_init 1 = .ok (.invokespecial 3, 3) := by decide +kernel
theorem dX1_init_4 : decode cX1_init 4 = .ok (.aload_n 0, 1) := by decide +kernel
theorem dX1_init_5 : decode cX1_init 5 = .ok (.bipush 20, 2) := by decide +kernel
theorem dX1_init_7 : decode cX1_init 7 = .ok (.newarray .int, 2) := by decide +kernel
theorem dX1_init_9 : decode cX1_init 9 = .ok (.putfield 9, 3) := by decide +kernel
theorem dX1_init_12 : decode cX1_init 12 = .ok (.return_, 1) := by decide +kernel
theorem dX1_count_0 : decode cX1_count 0 = .ok (.aload_n 0, 1) := by decide +kernel
theorem dX1_count_1 : decode cX1_count 1 = .ok (.getfield 15, 3) := by decide +kernel
theorem dX1_count_4 : decode cX1_count 4 = .ok (.ireturn, 1) := by decide +kernel
theorem dX1_at_0 : decode cX1_at 0 = .ok (.iload_n 1, 1) := by decide +kernel
theorem dX1_at_1 : decode cX1_at 1 = .ok (.ifCond .lt 20, 3) := by decide +kernel
theorem dX1_at_4 : decode cX1_at 4 = .ok (.iload_n 1, 1) := by decide +kernel
theorem dX1_at_5 : decode cX1_at 5 = .ok (.aload_n 0, 1) := by decide +kernel
theorem dX1_at_6 : decode cX1_at 6 = .ok (.getfield 15, 3) := by decide +kernel
theorem dX1_at_9 : decode cX1_at 9 = .ok (.if_icmp .ge 12, 3) := by decide +kernel
theorem dX1_at_12 : decode cX1_at 12 = .ok (.iload_n 1, 1) := by decide +kernel
theorem dX1_at_13 : decode cX1_at 13 = .ok (.aload_n 0, 1) := by decide +kernel
theorem dX1_at_14 : decode cX1_at 14 = .ok (.getfield 9, 3) := by decide +kernel
theorem dX1_at_17 : decode cX1_at 17 = .ok (.arraylength, 1) := by decide +kernel
theorem dX1_at_18 : decode cX1_at 18 = .ok (.if_icmp .lt 7, 3) := by decide +kernel
theorem dX1_at_21 : decode cX1_at 21 = .ok (.iconst 0, 1) := by decide +kernel
theorem dX1_at_22 : decode cX1_at 22 = .ok (.goto 9, 3) := by decide +kernel
theorem dX1_at_25 : decode cX1_at 25 = .ok (.aload_n 0, 1) := by decide +kernel
theorem dX1_at_26 : decode cX1_at 26 = .ok (.getfield 9, 3) := by decide +kernel
theorem dX1_at_29 : decode cX1_at 29 = .ok (.iload_n 1, 1) := by decide +kernel
theorem dX1_at_30 : decode cX1_at 30 = .ok (.iaload, 1) := by decide +kernel
theorem dX1_at_31 : decode cX1_at 31 = .ok (.ireturn, 1) := by decide +kernel
theorem dX1_add_0 : decode cX1_add 0 = .ok (.aload_n 0, 1) := by decide +kernel
theorem dX1_add_1 : decode cX1_add 1 = .ok (.getfield 15, 3) := by decide +kernel
theorem dX1_add_4 : decode cX1_add 4 = .ok (.ifCond .lt 35, 3) := by decide +kernel
theorem dX1_add_7 : decode cX1_add 7 = .ok (.aload_n 0, 1) := by decide +kernel
theorem dX1_add_8 : decode cX1_add 8 = .ok (.getfield 15, 3) := by decide +kernel
theorem dX1_add_11 : decode cX1_add 11 = .ok (.aload_n 0, 1) := by decide +kernel
theorem dX1_add_12 : decode cX1_add 12 = .ok (.getfield 9, 3) := by decide +kernel
theorem dX1_add_15 : decode cX1_add 15 = .ok (.arraylength, 1) := by decide +kernel
theorem dX1_add_16 : decode cX1_add 16 = .ok (.if_icmp .ge 23, 3) := by decide +kernel
theorem dX1_add_19 : decode cX1_add 19 = .ok (.aload_n 0, 1) := by decide +kernel
theorem dX1_add_20 : decode cX1_add 20 = .ok (.getfield 9, 3) := by decide +kernel
theorem dX1_add_23 : decode cX1_add 23 = .ok (.aload_n 0, 1) := by decide +kernel
theorem dX1_add_24 : decode cX1_add 24 = .ok (.getfield 15, 3) := by decide +kernel
theorem dX1_add_27 : decode cX1_add 27 = .ok (.iload_n 1, 1) := by decide +kernel
theorem dX1_add_28 : decode cX1_add 28 = .ok (.iastore, 1) := by decide +kernel
theorem dX1_add_29 : decode cX1_add 29 = .ok (.aload_n 0, 1) := by decide +kernel
theorem dX1_add_30 : decode cX1_add 30 = .ok (.dup, 1) := by decide +kernel
theorem dX1_add_31 : decode cX1_add 31 = .ok (.getfield 15, 3) := by decide +kernel
theorem dX1_add_34 : decode cX1_add 34 = .ok (.iconst 1, 1) := by decide +kernel
theorem dX1_add_35 : decode cX1_add 35 = .ok (.iadd, 1) := by decide +kernel
theorem dX1_add_36 : decode cX1_add 36 = .ok (.putfield 15, 3) := by decide +kernel
theorem dX1_add_39 : decode cX1_add 39 = .ok (.return_, 1) := by decide +kernel
theorem dX1_addAll_0 : decode cX1_addAll 0 = .ok (.iconst 0, 1) := by decide +kernel
theorem dX1_addAll_1 : decode cX1_addAll 1 = .ok (.istore_n 2, 1) := by decide +kernel
theorem dX1_addAll_2 : decode cX1_addAll 2 = .ok (.iload_n 2, 1) := by decide +kernel
theorem dX1_addAll_3 : decode cX1_addAll 3 = .ok (.aload_n 1, 1) := by decide +kernel
theorem dX1_addAll_4 : decode cX1_addAll 4 = .ok (.invokevirtual 19, 3) := by decide +kernel
theorem dX1_addAll_7 : decode cX1_addAll 7 = .ok (.if_icmp .ge 18, 3) := by decide +kernel
theorem dX1_addAll_10 : decode cX1_addAll 10 = .ok (.aload_n 0, 1) := by decide +kernel
theorem dX1_addAll_11 : decode cX1_addAll 11 = .ok (.aload_n 1, 1) := by decide +kernel
theorem dX1_addAll_12 : decode cX1_addAll 12 = .ok (.iload_n 2, 1) := by decide +kernel
theorem dX1_addAll_13 : decode cX1_addAll 13 = .ok (.invokevirtual 23, 3) := by decide +kernel
theorem dX1_addAll_16 : decode cX1_addAll 16 = .ok (.invokevirtual 27, 3) := by decide +kernel
theorem dX1_addAll_19 : decode cX1_addAll 19 = .ok (.iinc 2 1, 3) := by decide +kernel
theorem dX1_addAll_22 : decode cX1_addAll 22 = .ok (.goto (-20), 3) := by decide +kernel
theorem dX1_addAll_25 : decode cX1_addAll 25 = .ok (.return_, 1) := by decide +kernel
theorem dX1_empty_0 : decode cX1_empty 0 = .ok (.aload_n 0, 1) := by decide +kernel
theorem dX1_empty_1 : decode cX1_empty 1 = .ok (.iconst 0, 1) := by decide +kernel
theorem dX1_empty_2 : decode cX1_empty 2 = .ok (.putfield 15, 3) := by decide +kernel
theorem dX1_empty_5 : decode cX1_empty 5 = .ok (.return_, 1) := by decide +kernel
theorem dX2_init_0 : decode cX2_init 0 = .ok (.aload_n 0, 1) := by decide +kernel
theorem dX2_init_1 : decode cX2_init 1 = .ok (.invokespecial 3, 3) := by decide +kernel
theorem dX2_init_4 : decode cX2_init 4 = .ok (.aload_n 0, 1) := by decide +kernel
theorem dX2_init_5 : decode cX2_init 5 = .ok (.new 9, 3) := by decide +kernel
theorem dX2_init_8 : decode cX2_init 8 = .ok (.dup, 1) := by decide +kernel
theorem dX2_init_9 : decode cX2_init 9 = .ok (.invokespecial 11, 3) := by decide +kernel
theorem dX2_init_12 : decode cX2_init 12 = .ok (.putfield 12, 3) := by decide +kernel
theorem dX2_init_15 : decode cX2_init 15 = .ok (.aload_n 0, 1) := by decide +kernel
theorem dX2_init_16 : decode cX2_init 16 = .ok (.new 18, 3) := by decide +kernel
theorem dX2_init_19 : decode cX2_init 19 = .ok (.dup, 1) := by decide +kernel
theorem dX2_init_20 : decode cX2_init 20 = .ok (.invokespecial 20, 3) := by decide +kernel
theorem dX2_init_23 : decode cX2_init 23 = .ok (.putfield 21, 3) := by decide +kernel
theorem dX2_init_26 : decode cX2_init 26 = .ok (.aload_n 0, 1) := by decide +kernel
theorem dX2_init_27 : decode cX2_init 27 = .ok (.iconst (-1), 1) := by decide +kernel
theorem dX2_init_28 : decode cX2_init 28 = .ok (.putfield 25, 3) := by decide +kernel
theorem dX2_init_31 : decode cX2_init 31 = .ok (.return_, 1) := by decide +kernel
theorem dX2_append_0 : decode cX2_append 0 = .ok (.aload_n 1, 1) := by decide +kernel
theorem dX2_append_1 : decode cX2_append 1 = .ok (.aload_n 0, 1) := by decide +kernel
theorem dX2_append_2 : decode cX2_append 2 = .ok (.getfield 21, 3) := by decide +kernel
theorem dX2_append_5 : decode cX2_append 5 = .ok (.invokevirtual 29, 3) := by decide +kernel
theorem dX2_append_8 : decode cX2_append 8 = .ok (.putfield 33, 3) := by decide +kernel
theorem dX2_append_11 : decode cX2_append 11 = .ok (.aload_n 0, 1) := by decide +kernel
theorem dX2_append_12 : decode cX2_append 12 = .ok (.getfield 12, 3) := by decide +kernel
theorem dX2_append_15 : decode cX2_append 15 = .ok (.aload_n 1, 1) := by decide +kernel
theorem dX2_append_16 : decode cX2_append 16 = .ok (.invokevirtual 38, 3) := by decide +kernel
theorem dX2_append_19 : decode cX2_append 19 = .ok (.pop, 1) := by decide +kernel
theorem dX2_append_20 : decode cX2_append 20 = .ok (.aload_n 1, 1) := by decide +kernel
theorem dX2_append_21 : decode cX2_append 21 = .ok (.getfield 42, 3) := by decide +kernel
theorem dX2_append_24 : decode cX2_append 24 = .ok (.ifnonnull 17, 3) := by decide +kernel
theorem dX2_append_27 : decode cX2_append 27 = .ok (.aload_n 0, 1) := by decide +kernel
theorem dX2_append_28 : decode cX2_append 28 = .ok (.getfield 21, 3) := by decide +kernel
theorem dX2_append_31 : decode cX2_append 31 = .ok (.aload_n 1, 1) := by decide +kernel
theorem dX2_append_32 : decode cX2_append 32 = .ok (.getfield 46, 3) := by decide +kernel
theorem dX2_append_35 : decode cX2_append 35 = .ok (.invokevirtual 49, 3) := by decide +kernel
theorem dX2_append_38 : decode cX2_append 38 = .ok (.goto 17, 3) := by decide +kernel
theorem dX2_append_41 : decode cX2_append 41 = .ok (.aload_n 0, 1) := by decide +kernel
theorem dX2_append_42 : decode cX2_append 42 = .ok (.getfield 21, 3) := by decide +kernel
theorem dX2_append_45 : decode cX2_append 45 = .ok (.aload_n 1, 1) := by decide +kernel
theorem dX2_append_46 : decode cX2_append 46 = .ok (.getfield 42, 3) := by decide +kernel
theorem dX2_append_49 : decode cX2_append 49 = .ok (.getfield 21, 3) := by decide +kernel
theorem dX2_append_52 : decode cX2_append 52 = .ok (.invokevirtual 52, 3) := by decide +kernel
theorem dX2_append_55 : decode cX2_append 55 = .ok (.return_, 1) := by decide +kernel
theorem dX2_empty_0 : decode cX2_empty 0 = .ok (.aload_n 0, 1) := by decide +kernel
theorem dX2_empty_1 : decode cX2_empty 1 = .ok (.getfield 12, 3) := by decide +kernel
theorem dX2_empty_4 : decode cX2_empty 4 = .ok (.invokevirtual 56, 3) := by decide +kernel
theorem dX2_empty_7 : decode cX2_empty 7 = .ok (.aload_n 0, 1) := by decide +kernel
theorem dX2_empty_8 : decode cX2_empty 8 = .ok (.getfield 21, 3) := by decide +kernel
theorem dX2_empty_11 : decode cX2_empty 11 = .ok (.invokevirtual 59, 3) := by decide +kernel
theorem dX2_empty_14 : decode cX2_empty 14 = .ok (.return_, 1) := by decide +kernel
theorem dX2_last_0 : decode cX2_last 0 = .ok (.aload_n 0, 1) := by decide +kernel
theorem dX2_last_1 : decode cX2_last 1 = .ok (.getfield 12, 3) := by decide +kernel
theorem dX2_last_4 : decode cX2_last 4 = .ok (.invokevirtual 62, 3) := by decide +kernel
theorem dX2_last_7 : decode cX2_last 7 = .ok (.ifCond .eq 7, 3) := by decide +kernel
theorem dX2_last_10 : decode cX2_last 10 = .ok (.aconst_null, 1) := by decide +kernel
theorem dX2_last_11 : decode cX2_last 11 = .ok (.goto 22, 3) := by decide +kernel
theorem dX2_last_14 : decode cX2_last 14 = .ok (.aload_n 0, 1) := by decide +kernel
theorem dX2_last_15 : decode cX2_last 15 = .ok (.getfield 12, 3) := by decide +kernel
theorem dX2_last_18 : decode cX2_last 18 = .ok (.aload_n 0, 1) := by decide +kernel
theorem dX2_last_19 : decode cX2_last 19 = .ok (.getfield 12, 3) := by decide +kernel
theorem dX2_last_22 : decode cX2_last 22 = .ok (.invokevirtual 66, 3) := by decide +kernel
theorem dX2_last_25 : decode cX2_last 25 = .ok (.iconst 1, 1) := by decide +kernel
theorem dX2_last_26 : decode cX2_last 26 = .ok (.isub, 1) := by decide +kernel
theorem dX2_last_27 : decode cX2_last 27 = .ok (.invokevirtual 68, 3) := by decide +kernel
theorem dX2_last_30 : decode cX2_last 30 = .ok (.checkcast 34, 3) := by decide +kernel
theorem dX2_last_33 : decode cX2_last 33 = .ok (.areturn, 1) := by decide +kernel
theorem dX2_named_0 : decode cX2_named 0 = .ok (.iconst 0, 1) := by decide +kernel
theorem dX2_named_1 : decode cX2_named 1 = .ok (.istore_n 2, 1) := by decide +kernel
theorem dX2_named_2 : decode cX2_named 2 = .ok (.iload_n 2, 1) := by decide +kernel
theorem dX2_named_3 : decode cX2_named 3 = .ok (.aload_n 0, 1) := by decide +kernel
theorem dX2_named_4 : decode cX2_named 4 = .ok (.getfield 12, 3) := by decide +kernel
theorem dX2_named_7 : decode cX2_named 7 = .ok (.invokevirtual 66, 3) := by decide +kernel
theorem dX2_named_10 : decode cX2_named 10 = .ok (.if_icmp .ge 39, 3) := by decide +kernel
theorem dX2_named_13 : decode cX2_named 13 = .ok (.aload_n 0, 1) := by decide +kernel
theorem dX2_named_14 : decode cX2_named 14 = .ok (.getfield 12, 3) := by decide +kernel
theorem dX2_named_17 : decode cX2_named 17 = .ok (.iload_n 2, 1) := by decide +kernel
theorem dX2_named_18 : decode cX2_named 18 = .ok (.invokevirtual 68, 3) := by decide +kernel
theorem dX2_named_21 : decode cX2_named 21 = .ok (.checkcast 34, 3) := by decide +kernel
theorem dX2_named_24 : decode cX2_named 24 = .ok (.getfield 72, 3) := by decide +kernel
theorem dX2_named_27 : decode cX2_named 27 = .ok (.iload_n 1, 1) := by decide +kernel
theorem dX2_named_28 : decode cX2_named 28 = .ok (.if_icmp .ne 15, 3) := by decide +kernel
theorem dX2_named_31 : decode cX2_named 31 = .ok (.aload_n 0, 1) := by decide +kernel
theorem dX2_named_32 : decode cX2_named 32 = .ok (.getfield 12, 3) := by decide +kernel
theorem dX2_named_35 : decode cX2_named 35 = .ok (.iload_n 2, 1) := by decide +kernel
theorem dX2_named_36 : decode cX2_named 36 = .ok (.invokevirtual 68, 3) := by decide +kernel
theorem dX2_named_39 : decode cX2_named 39 = .ok (.checkcast 34, 3) := by decide +kernel
theorem dX2_named_42 : decode cX2_named 42 = .ok (.areturn, 1) := by decide +kernel
theorem dX2_named_43 : decode cX2_named 43 = .ok (.iinc 2 1, 3) := by decide +kernel
theorem dX2_named_46 : decode cX2_named 46 = .ok (.goto (-44), 3) := by decide +kernel
theorem dX2_named_49 : decode cX2_named 49 = .ok (.aconst_null, 1) := by decide +kernel
theorem dX2_named_50 : decode cX2_named 50 = .ok (.areturn, 1) := by decide +kernel
theorem dX2_sourceOf_0 : decode cX2_sourceOf 0 = .ok (.aload_n 0, 1) := by decide +kernel
theorem dX2_sourceOf_1 : decode cX2_sourceOf 1 = .ok (.aload_n 1, 1) := by decide +kernel
theorem dX2_sourceOf_2 : decode cX2_sourceOf 2 = .ok (.getfield 72, 3) := by decide +kernel
theorem dX2_sourceOf_5 : decode cX2_sourceOf 5 = .ok (.invokevirtual 75, 3) := by decide +kernel
theorem dX2_sourceOf_8 : decode cX2_sourceOf 8 = .ok (.astore_n 2, 1) := by decide +kernel
theorem dX2_sourceOf_9 : decode cX2_sourceOf 9 = .ok (.aload_n 2, 1) := by decide +kernel
theorem dX2_sourceOf_10 : decode cX2_sourceOf 10 = .ok (.ifnull 7, 3) := by decide +kernel
theorem dX2_sourceOf_13 : decode cX2_sourceOf 13 = .ok (.aload_n 2, 1) := by decide +kernel
theorem dX2_sourceOf_14 : decode cX2_sourceOf 14 = .ok (.goto 11, 3) := by decide +kernel
theorem dX2_sourceOf_17 : decode cX2_sourceOf 17 = .ok (.aload_n 0, 1) := by decide +kernel
theorem dX2_sourceOf_18 : decode cX2_sourceOf 18 = .ok (.aload_n 1, 1) := by decide +kernel
theorem dX2_sourceOf_19 : decode cX2_sourceOf 19 = .ok (.getfield 79, 3) := by decide +kernel
theorem dX2_sourceOf_22 : decode cX2_sourceOf 22 = .ok (.invokevirtual 75, 3) := by decide +kernel
theorem dX2_sourceOf_25 : decode cX2_sourceOf 25 = .ok (.areturn, 1) := by decide +kernel
theorem dX2_refersTo_0 : decode cX2_refersTo 0 = .ok (.iconst 0, 1) := by decide +kernel
theorem dX2_refersTo_1 : decode cX2_refersTo 1 = .ok (.istore_n 2, 1) := by decide +kernel
theorem dX2_refersTo_2 : decode cX2_refersTo 2 = .ok (.iload_n 2, 1) := by decide +kernel
theorem dX2_refersTo_3 : decode cX2_refersTo 3 = .ok (.aload_n 0, 1) := by decide +kernel
theorem dX2_refersTo_4 : decode cX2_refersTo 4 = .ok (.getfield 12, 3) := by decide +kernel
theorem dX2_refersTo_7 : decode cX2_refersTo 7 = .ok (.invokevirtual 66, 3) := by decide +kernel
theorem dX2_refersTo_10 : decode cX2_refersTo 10 = .ok (.if_icmp .ge 29, 3) := by decide +kernel
theorem dX2_refersTo_13 : decode cX2_refersTo 13 = .ok (.aload_n 0, 1) := by decide +kernel
theorem dX2_refersTo_14 : decode cX2_refersTo 14 = .ok (.getfield 12, 3) := by decide +kernel
theorem dX2_refersTo_17 : decode cX2_refersTo 17 = .ok (.iload_n 2, 1) := by decide +kernel
theorem dX2_refersTo_18 : decode cX2_refersTo 18 = .ok (.invokevirtual 68, 3) := by decide +kernel
theorem dX2_refersTo_21 : decode cX2_refersTo 21 = .ok (.checkcast 34, 3) := by decide +kernel
theorem dX2_refersTo_24 : decode cX2_refersTo 24 = .ok (.getfield 82, 3) := by decide +kernel
theorem dX2_refersTo_27 : decode cX2_refersTo 27 = .ok (.iload_n 1, 1) := by decide +kernel
theorem dX2_refersTo_28 : decode cX2_refersTo 28 = .ok (.if_icmp .ne 5, 3) := by decide +kernel
theorem dX2_refersTo_31 : decode cX2_refersTo 31 = .ok (.iconst 1, 1) := by decide +kernel
theorem dX2_refersTo_32 : decode cX2_refersTo 32 = .ok (.ireturn, 1) := by decide +kernel
theorem dX2_refersTo_33 : decode cX2_refersTo 33 = .ok (.iinc 2 1, 3) := by decide +kernel
theorem dX2_refersTo_36 : decode cX2_refersTo 36 = .ok (.goto (-34), 3) := by decide +kernel
theorem dX2_refersTo_39 : decode cX2_refersTo 39 = .ok (.iconst 0, 1) := by decide +kernel
theorem dX2_refersTo_40 : decode cX2_refersTo 40 = .ok (.ireturn, 1) := by decide +kernel
theorem dX2_isLike_0 : decode cX2_isLike 0 = .ok (.aload_n 0, 1) := by decide +kernel
theorem dX2_isLike_1 : decode cX2_isLike 1 = .ok (.getfield 12, 3) := by decide +kernel
theorem dX2_isLike_4 : decode cX2_isLike 4 = .ok (.invokevirtual 66, 3) := by decide +kernel
theorem dX2_isLike_7 : decode cX2_isLike 7 = .ok (.aload_n 1, 1) := by decide +kernel
theorem dX2_isLike_8 : decode cX2_isLike 8 = .ok (.getfield 12, 3) := by decide +kernel
theorem dX2_isLike_11 : decode cX2_isLike 11 = .ok (.invokevirtual 66, 3) := by decide +kernel
theorem dX2_isLike_14 : decode cX2_isLike 14 = .ok (.if_icmp .eq 5, 3) := by decide +kernel
theorem dX2_isLike_17 : decode cX2_isLike 17 = .ok (.iconst 0, 1) := by decide +kernel
theorem dX2_isLike_18 : decode cX2_isLike 18 = .ok (.ireturn, 1) := by decide +kernel
theorem dX2_isLike_19 : decode cX2_isLike 19 = .ok (.iconst 0, 1) := by decide +kernel
theorem dX2_isLike_20 : decode cX2_isLike 20 = .ok (.istore_n 2, 1) := by decide +kernel
theorem dX2_isLike_21 : decode cX2_isLike 21 = .ok (.iload_n 2, 1) := by decide +kernel
theorem dX2_isLike_22 : decode cX2_isLike 22 = .ok (.aload_n 0, 1) := by decide +kernel
theorem dX2_isLike_23 : decode cX2_isLike 23 = .ok (.getfield 12, 3) := by decide +kernel
theorem dX2_isLike_26 : decode cX2_isLike 26 = .ok (.invokevirtual 66, 3) := by decide +kernel
theorem dX2_isLike_29 : decode cX2_isLike 29 = .ok (.if_icmp .ge 50, 3) := by decide +kernel
theorem dX2_isLike_32 : decode cX2_isLike 32 = .ok (.iload_n 2, 1) := by decide +kernel
theorem dX2_isLike_33 : decode cX2_isLike 33 = .ok (.aload_n 1, 1) := by decide +kernel
theorem dX2_isLike_34 : decode cX2_isLike 34 = .ok (.getfield 12, 3) := by decide +kernel
theorem dX2_isLike_37 : decode cX2_isLike 37 = .ok (.invokevirtual 66, 3) := by decide +kernel
theorem dX2_isLike_40 : decode cX2_isLike 40 = .ok (.if_icmp .ge 39, 3) := by decide +kernel
theorem dX2_isLike_43 : decode cX2_isLike 43 = .ok (.aload_n 0, 1) := by decide +kernel
theorem dX2_isLike_44 : decode cX2_isLike 44 = .ok (.getfield 12, 3) := by decide +kernel
theorem dX2_isLike_47 : decode cX2_isLike 47 = .ok (.iload_n 2, 1) := by decide +kernel
theorem dX2_isLike_48 : decode cX2_isLike 48 = .ok (.invokevirtual 68, 3) := by decide +kernel
theorem dX2_isLike_51 : decode cX2_isLike 51 = .ok (.checkcast 34, 3) := by decide +kernel
theorem dX2_isLike_54 : decode cX2_isLike 54 = .ok (.aload_n 1, 1) := by decide +kernel
theorem dX2_isLike_55 : decode cX2_isLike 55 = .ok (.getfield 12, 3) := by decide +kernel
theorem dX2_isLike_58 : decode cX2_isLike 58 = .ok (.iload_n 2, 1) := by decide +kernel
theorem dX2_isLike_59 : decode cX2_isLike 59 = .ok (.invokevirtual 68, 3) := by decide +kernel
theorem dX2_isLike_62 : decode cX2_isLike 62 = .ok (.checkcast 34, 3) := by decide +kernel
theorem dX2_isLike_65 : decode cX2_isLike 65 = .ok (.invokevirtual 85, 3) := by decide +kernel
theorem dX2_isLike_68 : decode cX2_isLike 68 = .ok (.ifCond .ne 5, 3) := by decide +kernel
theorem dX2_isLike_71 : decode cX2_isLike 71 = .ok (.iconst 0, 1) := by decide +kernel
theorem dX2_isLike_72 : decode cX2_isLike 72 = .ok (.ireturn, 1) := by decide +kernel
theorem dX2_isLike_73 : decode cX2_isLike 73 = .ok (.iinc 2 1, 3) := by decide +kernel
theorem dX2_isLike_76 : decode cX2_isLike 76 = .ok (.goto (-55), 3) := by decide +kernel
theorem dX2_isLike_79 : decode cX2_isLike 79 = .ok (.iconst 1, 1) := by decide +kernel
theorem dX2_isLike_80 : decode cX2_isLike 80 = .ok (.ireturn, 1) := by decide +kernel
theorem dX3_init_0 : decode cX3_init 0 = .ok (.aload_n 0, 1) := by decide +kernel
theorem dX3_init_1 : decode cX3_init 1 = .ok (.invokespecial 3, 3) := by decide +kernel
theorem dX3_init_4 : decode cX3_init 4 = .ok (.aload_n 0, 1) := by decide +kernel
theorem dX3_init_5 : decode cX3_init 5 = .ok (.new 9, 3) := by decide +kernel
theorem dX3_init_8 : decode cX3_init 8 = .ok (.dup, 1) := by decide +kernel
theorem dX3_init_9 : decode cX3_init 9 = .ok (.invokespecial 11, 3) := by decide +kernel
theorem dX3_init_12 : decode cX3_init 12 = .ok (.putfield 12, 3) := by decide +kernel
theorem dX3_init_15 : decode cX3_init 15 = .ok (.return_, 1) := by decide +kernel
theorem dX3_keptVersion_0 : decode cX3_keptVersion 0 = .ok (.iload_n 1, 1) := by decide +kernel
theorem dX3_keptVersion_1 : decode cX3_keptVersion 1 = .ok (.ifCond .lt 14, 3) := by decide +kernel
theorem dX3_keptVersion_4 : decode cX3_keptVersion 4 = .ok (.iload_n 1, 1) := by decide +kernel
theorem dX3_keptVersion_5 : decode cX3_keptVersion 5 = .ok (.aload_n 0, 1) := by decide +kernel
theorem dX3_keptVersion_6 : decode cX3_keptVersion 6 = .ok (.getfield 12, 3) := by decide +kernel
theorem dX3_keptVersion_9 : decode cX3_keptVersion 9 = .ok (.invokevirtual 18, 3) := by decide +kernel
theorem dX3_keptVersion_12 : decode cX3_keptVersion 12 = .ok (.if_icmp .lt 5, 3) := by decide +kernel
theorem dX3_keptVersion_15 : decode cX3_keptVersion 15 = .ok (.aconst_null, 1) := by decide +kernel
theorem dX3_keptVersion_16 : decode cX3_keptVersion 16 = .ok (.areturn, 1) := by decide +kernel
theorem dX3_keptVersion_17 : decode cX3_keptVersion 17 = .ok (.aload_n 0, 1) := by decide +kernel
theorem dX3_keptVersion_18 : decode cX3_keptVersion 18 = .ok (.getfield 12, 3) := by decide +kernel
theorem dX3_keptVersion_21 : decode cX3_keptVersion 21 = .ok (.iload_n 1, 1) := by decide +kernel
theorem dX3_keptVersion_22 : decode cX3_keptVersion 22 = .ok (.invokevirtual 22, 3) := by decide +kernel
theorem dX3_keptVersion_25 : decode cX3_keptVersion 25 = .ok (.checkcast 26, 3) := by decide +kernel
theorem dX3_keptVersion_28 : decode cX3_keptVersion 28 = .ok (.astore_n 2, 1) := by decide +kernel
theorem dX3_keptVersion_29 : decode cX3_keptVersion 29 = .ok (.aload_n 2, 1) := by decide +kernel
theorem dX3_keptVersion_30 : decode cX3_keptVersion 30 = .ok (.getfield 28, 3) := by decide +kernel
theorem dX3_keptVersion_33 : decode cX3_keptVersion 33 = .ok (.iconst 2, 1) := by decide +kernel
theorem dX3_keptVersion_34 : decode cX3_keptVersion 34 = .ok (.if_icmp .ne 7, 3) := by decide +kernel
theorem dX3_keptVersion_37 : decode cX3_keptVersion 37 = .ok (.aconst_null, 1) := by decide +kernel
theorem dX3_keptVersion_38 : decode cX3_keptVersion 38 = .ok (.goto 4, 3) := by decide +kernel
theorem dX3_keptVersion_41 : decode cX3_keptVersion 41 = .ok (.aload_n 2, 1) := by decide +kernel
theorem dX3_keptVersion_42 : decode cX3_keptVersion 42 = .ok (.areturn, 1) := by decide +kernel
theorem dX3_countThere_0 : decode cX3_countThere 0 = .ok (.iconst 0, 1) := by decide +kernel
theorem dX3_countThere_1 : decode cX3_countThere 1 = .ok (.istore_n 1, 1) := by decide +kernel
theorem dX3_countThere_2 : decode cX3_countThere 2 = .ok (.iconst 0, 1) := by decide +kernel
theorem dX3_countThere_3 : decode cX3_countThere 3 = .ok (.istore_n 2, 1) := by decide +kernel
theorem dX3_countThere_4 : decode cX3_countThere 4 = .ok (.iload_n 2, 1) := by decide +kernel
theorem dX3_countThere_5 : decode cX3_countThere 5 = .ok (.aload_n 0, 1) := by decide +kernel
theorem dX3_countThere_6 : decode cX3_countThere 6 = .ok (.getfield 12, 3) := by decide +kernel
theorem dX3_countThere_9 : decode cX3_countThere 9 = .ok (.invokevirtual 18, 3) := by decide +kernel
theorem dX3_countThere_12 : decode cX3_countThere 12 = .ok (.if_icmp .ge 29, 3) := by decide +kernel
theorem dX3_countThere_15 : decode cX3_countThere 15 = .ok (.aload_n 0, 1) := by decide +kernel
theorem dX3_countThere_16 : decode cX3_countThere 16 = .ok (.getfield 12, 3) := by decide +kernel
theorem dX3_countThere_19 : decode cX3_countThere 19 = .ok (.iload_n 2, 1) := by decide +kernel
theorem dX3_countThere_20 : decode cX3_countThere 20 = .ok (.invokevirtual 22, 3) := by decide +kernel
theorem dX3_countThere_23 : decode cX3_countThere 23 = .ok (.checkcast 26, 3) := by decide +kernel
theorem dX3_countThere_26 : decode cX3_countThere 26 = .ok (.getfield 28, 3) := by decide +kernel
theorem dX3_countThere_29 : decode cX3_countThere 29 = .ok (.ifCond .ne 6, 3) := by decide +kernel
theorem dX3_countThere_32 : decode cX3_countThere 32 = .ok (.iinc 1 1, 3) := by decide +kernel
theorem dX3_countThere_35 : decode cX3_countThere 35 = .ok (.iinc 2 1, 3) := by decide +kernel
theorem dX3_countThere_38 : decode cX3_countThere 38 = .ok (.goto (-34), 3) := by decide +kernel
theorem dX3_countThere_41 : decode cX3_countThere 41 = .ok (.iload_n 1, 1) := by decide +kernel
theorem dX3_countThere_42 : decode cX3_countThere 42 = .ok (.ireturn, 1) := by decide +kernel
theorem dX3_lowestLike_0 : decode cX3_lowestLike 0 = .ok (.iconst 0, 1) := by decide +kernel
theorem dX3_lowestLike_1 : decode cX3_lowestLike 1 = .ok (.istore_n 2, 1) := by decide +kernel
theorem dX3_lowestLike_2 : decode cX3_lowestLike 2 = .ok (.iload_n 2, 1) := by decide +kernel
theorem dX3_lowestLike_3 : decode cX3_lowestLike 3 = .ok (.aload_n 0, 1) := by decide +kernel
theorem dX3_lowestLike_4 : decode cX3_lowestLike 4 = .ok (.getfield 12, 3) := by decide +kernel
theorem dX3_lowestLike_7 : decode cX3_lowestLike 7 = .ok (.invokevirtual 18, 3) := by decide +kernel
theorem dX3_lowestLike_10 : decode cX3_lowestLike 10 = .ok (.if_icmp .ge 41, 3) := by decide +kernel
theorem dX3_lowestLike_13 : decode cX3_lowestLike 13 = .ok (.aload_n 0, 1) := by decide +kernel
theorem dX3_lowestLike_14 : decode cX3_lowestLike 14 = .ok (.getfield 12, 3) := by decide +kernel
theorem dX3_lowestLike_17 : decode cX3_lowestLike 17 = .ok (.iload_n 2, 1) := by decide +kernel
theorem dX3_lowestLike_18 : decode cX3_lowestLike 18 = .ok (.invokevirtual 22, 3) := by decide +kernel
theorem dX3_lowestLike_21 : decode cX3_lowestLike 21 = .ok (.checkcast 26, 3) := by decide +kernel
theorem dX3_lowestLike_24 : decode cX3_lowestLike 24 = .ok (.astore_n 3, 1) := by decide +kernel
theorem dX3_lowestLike_25 : decode cX3_lowestLike 25 = .ok (.aload_n 3, 1) := by decide +kernel
theorem dX3_lowestLike_26 : decode cX3_lowestLike 26 = .ok (.getfield 28, 3) := by decide +kernel
theorem dX3_lowestLike_29 : decode cX3_lowestLike 29 = .ok (.ifCond .ne 16, 3) := by decide +kernel
theorem dX3_lowestLike_32 : decode cX3_lowestLike 32 = .ok (.aload_n 3, 1) := by decide +kernel
theorem dX3_lowestLike_33 : decode cX3_lowestLike 33 = .ok (.getfield 32, 3) := by decide +kernel
theorem dX3_lowestLike_36 : decode cX3_lowestLike 36 = .ok (.aload_n 1, 1) := by decide +kernel
theorem dX3_lowestLike_37 : decode cX3_lowestLike 37 = .ok (.invokevirtual 36, 3) := by decide +kernel
theorem dX3_lowestLike_40 : decode cX3_lowestLike 40 = .ok (.ifCond .eq 5, 3) := by decide +kernel
theorem dX3_lowestLike_43 : decode cX3_lowestLike 43 = .ok (.iload_n 2, 1) := by decide +kernel
theorem dX3_lowestLike_44 : decode cX3_lowestLike 44 = .ok (.ireturn, 1) := by decide +kernel
theorem dX3_lowestLike_45 : decode cX3_lowestLike 45 = .ok (.iinc 2 1, 3) := by decide +kernel
theorem dX3_lowestLike_48 : decode cX3_lowestLike 48 = .ok (.goto (-46), 3) := by decide +kernel
theorem dX3_lowestLike_51 : decode cX3_lowestLike 51 = .ok (.iconst (-1), 1) := by decide +kernel
theorem dX3_lowestLike_52 : decode cX3_lowestLike 52 = .ok (.ireturn, 1) := by decide +kernel
theorem dX3_refersTo_0 : decode cX3_refersTo 0 = .ok (.iconst 0, 1) := by decide +kernel
theorem dX3_refersTo_1 : decode cX3_refersTo 1 = .ok (.istore_n 2, 1) := by decide +kernel
theorem dX3_refersTo_2 : decode cX3_refersTo 2 = .ok (.iload_n 2, 1) := by decide +kernel
theorem dX3_refersTo_3 : decode cX3_refersTo 3 = .ok (.aload_n 0, 1) := by decide +kernel
theorem dX3_refersTo_4 : decode cX3_refersTo 4 = .ok (.getfield 12, 3) := by decide +kernel
theorem dX3_refersTo_7 : decode cX3_refersTo 7 = .ok (.invokevirtual 18, 3) := by decide +kernel
theorem dX3_refersTo_10 : decode cX3_refersTo 10 = .ok (.if_icmp .ge 42, 3) := by decide +kernel
theorem dX3_refersTo_13 : decode cX3_refersTo 13 = .ok (.aload_n 0, 1) := by decide +kernel
theorem dX3_refersTo_14 : decode cX3_refersTo 14 = .ok (.getfield 12, 3) := by decide +kernel
theorem dX3_refersTo_17 : decode cX3_refersTo 17 = .ok (.iload_n 2, 1) := by decide +kernel
theorem dX3_refersTo_18 : decode cX3_refersTo 18 = .ok (.invokevirtual 22, 3) := by decide +kernel
theorem dX3_refersTo_21 : decode cX3_refersTo 21 = .ok (.checkcast 26, 3) := by decide +kernel
theorem dX3_refersTo_24 : decode cX3_refersTo 24 = .ok (.astore_n 3, 1) := by decide +kernel
theorem dX3_refersTo_25 : decode cX3_refersTo 25 = .ok (.aload_n 3, 1) := by decide +kernel
theorem dX3_refersTo_26 : decode cX3_refersTo 26 = .ok (.getfield 28, 3) := by decide +kernel
theorem dX3_refersTo_29 : decode cX3_refersTo 29 = .ok (.iconst 2, 1) := by decide +kernel
theorem dX3_refersTo_30 : decode cX3_refersTo 30 = .ok (.if_icmp .eq 16, 3) := by decide +kernel
theorem dX3_refersTo_33 : decode cX3_refersTo 33 = .ok (.aload_n 3, 1) := by decide +kernel
theorem dX3_refersTo_34 : decode cX3_refersTo 34 = .ok (.getfield 32, 3) := by decide +kernel
theorem dX3_refersTo_37 : decode cX3_refersTo 37 = .ok (.iload_n 1, 1) := by decide +kernel
theorem dX3_refersTo_38 : decode cX3_refersTo 38 = .ok (.invokevirtual 42, 3) := by decide +kernel
theorem dX3_refersTo_41 : decode cX3_refersTo 41 = .ok (.ifCond .eq 5, 3) := by decide +kernel
theorem dX3_refersTo_44 : decode cX3_refersTo 44 = .ok (.iconst 1, 1) := by decide +kernel
theorem dX3_refersTo_45 : decode cX3_refersTo 45 = .ok (.ireturn, 1) := by decide +kernel
theorem dX3_refersTo_46 : decode cX3_refersTo 46 = .ok (.iinc 2 1, 3) := by decide +kernel
theorem dX3_refersTo_49 : decode cX3_refersTo 49 = .ok (.goto (-47), 3) := by decide +kernel
theorem dX3_refersTo_52 : decode cX3_refersTo 52 = .ok (.iconst 0, 1) := by decide +kernel
theorem dX3_refersTo_53 : decode cX3_refersTo 53 = .ok (.ireturn, 1) := by decide +kernel
theorem dX3_accepts_0 : decode cX3_accepts 0 = .ok (.aload_n 0, 1) := by decide +kernel
theorem dX3_accepts_1 : decode cX3_accepts 1 = .ok (.getfield 12, 3) := by decide +kernel
theorem dX3_accepts_4 : decode cX3_accepts 4 = .ok (.invokevirtual 18, 3) := by decide +kernel
theorem dX3_accepts_7 : decode cX3_accepts 7 = .ok (.iconst 1, 1) := by decide +kernel
theorem dX3_accepts_8 : decode cX3_accepts 8 = .ok (.isub, 1) := by decide +kernel
theorem dX3_accepts_9 : decode cX3_accepts 9 = .ok (.istore_n 2, 1) := by decide +kernel
theorem dX3_accepts_10 : decode cX3_accepts 10 = .ok (.iload_n 2, 1) := by decide +kernel
theorem dX3_accepts_11 : decode cX3_accepts 11 = .ok (.ifCond .lt 51, 3) := by decide +kernel
theorem dX3_accepts_14 : decode cX3_accepts 14 = .ok (.aload_n 0, 1) := by decide +kernel
theorem dX3_accepts_15 : decode cX3_accepts 15 = .ok (.getfield 12, 3) := by decide +kernel
theorem dX3_accepts_18 : decode cX3_accepts 18 = .ok (.iload_n 2, 1) := by decide +kernel
theorem dX3_accepts_19 : decode cX3_accepts 19 = .ok (.invokevirtual 22, 3) := by decide +kernel
theorem dX3_accepts_22 : decode cX3_accepts 22 = .ok (.checkcast 26, 3) := by decide +kernel
theorem dX3_accepts_25 : decode cX3_accepts 25 = .ok (.astore_n 3, 1) := by decide +kernel
theorem dX3_accepts_26 : decode cX3_accepts 26 = .ok (.aload_n 3, 1) := by decide +kernel
theorem dX3_accepts_27 : decode cX3_accepts 27 = .ok (.getfield 28, 3) := by decide +kernel
theorem dX3_accepts_30 : decode cX3_accepts 30 = .ok (.ifCond .ne 26, 3) := by decide +kernel
theorem dX3_accepts_33 : decode cX3_accepts 33 = .ok (.aload_n 0, 1) := by decide +kernel
theorem dX3_accepts_34 : decode cX3_accepts 34 = .ok (.aload_n 1, 1) := by decide +kernel
theorem dX3_accepts_35 : decode cX3_accepts 35 = .ok (.aload_n 3, 1) := by decide +kernel
theorem dX3_accepts_36 : decode cX3_accepts 36 = .ok (.getfield 32, 3) := by decide +kernel
theorem dX3_accepts_39 : decode cX3_accepts 39 = .ok (.invokevirtual 46, 3) := by decide +kernel
theorem dX3_accepts_42 : decode cX3_accepts 42 = .ok (.ifCond .ne 5, 3) := by decide +kernel
theorem dX3_accepts_45 : decode cX3_accepts 45 = .ok (.iconst 0, 1) := by decide +kernel
theorem dX3_accepts_46 : decode cX3_accepts 46 = .ok (.ireturn, 1) := by decide +kernel
theorem dX3_accepts_47 : decode cX3_accepts 47 = .ok (.aload_n 0, 1) := by decide +kernel
theorem dX3_accepts_48 : decode cX3_accepts 48 = .ok (.getfield 50, 3) := by decide +kernel
theorem dX3_accepts_51 : decode cX3_accepts 51 = .ok (.ifCond .ne 5, 3) := by decide +kernel
theorem dX3_accepts_54 : decode cX3_accepts 54 = .ok (.iconst 1, 1) := by decide +kernel
theorem dX3_accepts_55 : decode cX3_accepts 55 = .ok (.ireturn, 1) := by decide +kernel
theorem dX3_accepts_56 : decode cX3_accepts 56 = .ok (.iinc 2 (-1), 3) := by decide +kernel
theorem dX3_accepts_59 : decode cX3_accepts 59 = .ok (.goto (-49), 3) := by decide +kernel
theorem dX3_accepts_62 : decode cX3_accepts 62 = .ok (.iconst 1, 1) := by decide +kernel
theorem dX3_accepts_63 : decode cX3_accepts 63 = .ok (.ireturn, 1) := by decide +kernel
theorem dX3_agrees_0 : decode cX3_agrees 0 = .ok (.aload_n 0, 1) := by decide +kernel
theorem dX3_agrees_1 : decode cX3_agrees 1 = .ok (.getfield 54, 3) := by decide +kernel
theorem dX3_agrees_4 : decode cX3_agrees 4 = .ok (.iconst 1, 1) := by decide +kernel
theorem dX3_agrees_5 : decode cX3_agrees 5 = .ok (.if_icmp .eq 11, 3) := by decide +kernel
theorem dX3_agrees_8 : decode cX3_agrees 8 = .ok (.aload_n 0, 1) := by decide +kernel
theorem dX3_agrees_9 : decode cX3_agrees 9 = .ok (.getfield 54, 3) := by decide +kernel
theorem dX3_agrees_12 : decode cX3_agrees 12 = .ok (.iconst 3, 1) := by decide +kernel
theorem dX3_agrees_13 : decode cX3_agrees 13 = .ok (.if_icmp .ne 14, 3) := by decide +kernel
theorem dX3_agrees_16 : decode cX3_agrees 16 = .ok (.aload_n 1, 1) := by decide +kernel
theorem dX3_agrees_17 : decode cX3_agrees 17 = .ok (.aload_n 2, 1) := by decide +kernel
theorem dX3_agrees_18 : decode cX3_agrees 18 = .ok (.iconst 0, 1) := by decide +kernel
theorem dX3_agrees_19 : decode cX3_agrees 19 = .ok (.invokestatic 57, 3) := by decide +kernel
theorem dX3_agrees_22 : decode cX3_agrees 22 = .ok (.ifCond .ne 5, 3) := by decide +kernel
theorem dX3_agrees_25 : decode cX3_agrees 25 = .ok (.iconst 0, 1) := by decide +kernel
theorem dX3_agrees_26 : decode cX3_agrees 26 = .ok (.ireturn, 1) := by decide +kernel
theorem dX3_agrees_27 : decode cX3_agrees 27 = .ok (.aload_n 0, 1) := by decide +kernel
theorem dX3_agrees_28 : decode cX3_agrees 28 = .ok (.getfield 54, 3) := by decide +kernel
theorem dX3_agrees_31 : decode cX3_agrees 31 = .ok (.iconst 2, 1) := by decide +kernel
theorem dX3_agrees_32 : decode cX3_agrees 32 = .ok (.if_icmp .eq 11, 3) := by decide +kernel
theorem dX3_agrees_35 : decode cX3_agrees 35 = .ok (.aload_n 0, 1) := by decide +kernel
theorem dX3_agrees_36 : decode cX3_agrees 36 = .ok (.getfield 54, 3) := by decide +kernel
theorem dX3_agrees_39 : decode cX3_agrees 39 = .ok (.iconst 3, 1) := by decide +kernel
theorem dX3_agrees_40 : decode cX3_agrees 40 = .ok (.if_icmp .ne 12, 3) := by decide +kernel
theorem dX3_agrees_43 : decode cX3_agrees 43 = .ok (.aload_n 2, 1) := by decide +kernel
theorem dX3_agrees_44 : decode cX3_agrees 44 = .ok (.aload_n 1, 1) := by decide +kernel
theorem dX3_agrees_45 : decode cX3_agrees 45 = .ok (.iconst 0, 1) := by decide +kernel
theorem dX3_agrees_46 : decode cX3_agrees 46 = .ok (.invokestatic 57, 3) := by decide +kernel
theorem dX3_agrees_49 : decode cX3_agrees 49 = .ok (.ifCond .eq 7, 3) := by decide +kernel
theorem dX3_agrees_52 : decode cX3_agrees 52 = .ok (.iconst 1, 1) := by decide +kernel
theorem dX3_agrees_53 : decode cX3_agrees 53 = .ok (.goto 4, 3) := by decide +kernel
theorem dX3_agrees_56 : decode cX3_agrees 56 = .ok (.iconst 0, 1) := by decide +kernel
theorem dX3_agrees_57 : decode cX3_agrees 57 = .ok (.ireturn, 1) := by decide +kernel
theorem dX4_init_0 : decode cX4_init 0 = .ok (.aload_n 0, 1) := by decide +kernel
theorem dX4_init_1 : decode cX4_init 1 = .ok (.invokespecial 3, 3) := by decide +kernel
theorem dX4_init_4 : decode cX4_init 4 = .ok (.aload_n 0, 1) := by decide +kernel
theorem dX4_init_5 : decode cX4_init 5 = .ok (.aload_n 1, 1) := by decide +kernel
theorem dX4_init_6 : decode cX4_init 6 = .ok (.putfield 9, 3) := by decide +kernel
theorem dX4_init_9 : decode cX4_init 9 = .ok (.aload_n 0, 1) := by decide +kernel
theorem dX4_init_10 : decode cX4_init 10 = .ok (.iconst 0, 1) := by decide +kernel
theorem dX4_init_11 : decode cX4_init 11 = .ok (.putfield 15, 3) := by decide +kernel
theorem dX4_init_14 : decode cX4_init 14 = .ok (.return_, 1) := by decide +kernel
theorem dX5_init_0 : decode cX5_init 0 = .ok (.aload_n 0, 1) := by decide +kernel
theorem dX5_init_1 : decode cX5_init 1 = .ok (.invokespecial 1, 3) := by decide +kernel
theorem dX5_init_4 : decode cX5_init 4 = .ok (.aload_n 0, 1) := by decide +kernel
theorem dX5_init_5 : decode cX5_init 5 = .ok (.new 7, 3) := by decide +kernel
theorem dX5_init_8 : decode cX5_init 8 = .ok (.dup, 1) := by decide +kernel
theorem dX5_init_9 : decode cX5_init 9 = .ok (.invokespecial 9, 3) := by decide +kernel
theorem dX5_init_12 : decode cX5_init 12 = .ok (.putfield 10, 3) := by decide +kernel
theorem dX5_init_15 : decode cX5_init 15 = .ok (.iconst 0, 1) := by decide +kernel
theorem dX5_init_16 : decode cX5_init 16 = .ok (.istore_n 1, 1) := by decide +kernel
theorem dX5_init_17 : decode cX5_init 17 = .ok (.iload_n 1, 1) := by decide +kernel
theorem dX5_init_18 : decode cX5_init 18 = .ok (.bipush 6, 2) := by decide +kernel
theorem dX5_init_20 : decode cX5_init 20 = .ok (.if_icmp .ge 24, 3) := by decide +kernel
theorem dX5_init_23 : decode cX5_init 23 = .ok (.aload_n 0, 1) := by decide +kernel
theorem dX5_init_24 : decode cX5_init 24 = .ok (.getfield 10, 3) := by decide +kernel
theorem dX5_init_27 : decode cX5_init 27 = .ok (.new 16, 3) := by decide +kernel
theorem dX5_init_30 : decode cX5_init 30 = .ok (.dup, 1) := by decide +kernel
theorem dX5_init_31 : decode cX5_init 31 = .ok (.invokespecial 18, 3) := by decide +kernel
theorem dX5_init_34 : decode cX5_init 34 = .ok (.invokevirtual 19, 3) := by decide +kernel
theorem dX5_init_37 : decode cX5_init 37 = .ok (.pop, 1) := by decide +kernel
theorem dX5_init_38 : decode cX5_init 38 = .ok (.iinc 1 1, 3) := by decide +kernel
theorem dX5_init_41 : decode cX5_init 41 = .ok (.goto (-24), 3) := by decide +kernel
theorem dX5_init_44 : decode cX5_init 44 = .ok (.aload_n 0, 1) := by decide +kernel
theorem dX5_init_45 : decode cX5_init 45 = .ok (.new 7, 3) := by decide +kernel
theorem dX5_init_48 : decode cX5_init 48 = .ok (.dup, 1) := by decide +kernel
theorem dX5_init_49 : decode cX5_init 49 = .ok (.invokespecial 9, 3) := by decide +kernel
theorem dX5_init_52 : decode cX5_init 52 = .ok (.putfield 23, 3) := by decide +kernel
theorem dX5_init_55 : decode cX5_init 55 = .ok (.aload_n 0, 1) := by decide +kernel
theorem dX5_init_56 : decode cX5_init 56 = .ok (.new 26, 3) := by decide +kernel
theorem dX5_init_59 : decode cX5_init 59 = .ok (.dup, 1) := by decide +kernel
theorem dX5_init_60 : decode cX5_init 60 = .ok (.invokespecial 28, 3) := by decide +kernel
theorem dX5_init_63 : decode cX5_init 63 = .ok (.putfield 29, 3) := by decide +kernel
theorem dX5_init_66 : decode cX5_init 66 = .ok (.aload_n 0, 1) := by decide +kernel
theorem dX5_init_67 : decode cX5_init 67 = .ok (.new 33, 3) := by decide +kernel
theorem dX5_init_70 : decode cX5_init 70 = .ok (.dup, 1) := by decide +kernel
theorem dX5_init_71 : decode cX5_init 71 = .ok (.invokespecial 35, 3) := by decide +kernel
theorem dX5_init_74 : decode cX5_init 74 = .ok (.putfield 36, 3) := by decide +kernel
theorem dX5_init_77 : decode cX5_init 77 = .ok (.aload_n 0, 1) := by decide +kernel
theorem dX5_init_78 : decode cX5_init 78 = .ok (.new 33, 3) := by decide +kernel
theorem dX5_init_81 : decode cX5_init 81 = .ok (.dup, 1) := by decide +kernel
theorem dX5_init_82 : decode cX5_init 82 = .ok (.invokespecial 35, 3) := by decide +kernel
theorem dX5_init_85 : decode cX5_init 85 = .ok (.putfield 40, 3) := by decide +kernel
theorem dX5_init_88 : decode cX5_init 88 = .ok (.aload_n 0, 1) := by decide +kernel
theorem dX5_init_89 : decode cX5_init 89 = .ok (.new 33, 3) := by decide +kernel
theorem dX5_init_92 : decode cX5_init 92 = .ok (.dup, 1) := by decide +kernel
theorem dX5_init_93 : decode cX5_init 93 = .ok (.invokespecial 35, 3) := by decide +kernel
theorem dX5_init_96 : decode cX5_init 96 = .ok (.putfield 43, 3) := by decide +kernel
theorem dX5_init_99 : decode cX5_init 99 = .ok (.return_, 1) := by decide +kernel
theorem dX5_field_0 : decode cX5_field 0 = .ok (.iload_n 1, 1) := by decide +kernel
theorem dX5_field_1 : decode cX5_field 1 = .ok (.invokestatic 46, 3) := by decide +kernel
theorem dX5_field_4 : decode cX5_field 4 = .ok (.ifCond .eq 30, 3) := by decide +kernel
theorem dX5_field_7 : decode cX5_field 7 = .ok (.iload_n 2, 1) := by decide +kernel
theorem dX5_field_8 : decode cX5_field 8 = .ok (.invokestatic 50, 3) := by decide +kernel
theorem dX5_field_11 : decode cX5_field 11 = .ok (.ifCond .eq 23, 3) := by decide +kernel
theorem dX5_field_14 : decode cX5_field 14 = .ok (.iload 4, 2) := by decide +kernel
theorem dX5_field_16 : decode cX5_field 16 = .ok (.iload_n 1, 1) := by decide +kernel
theorem dX5_field_17 : decode cX5_field 17 = .ok (.if_icmp .eq 17, 3) := by decide +kernel
theorem dX5_field_20 : decode cX5_field 20 = .ok (.iload 4, 2) := by decide +kernel
theorem dX5_field_22 : decode cX5_field 22 = .ok (.iconst (-1), 1) := by decide +kernel
theorem dX5_field_23 : decode cX5_field 23 = .ok (.if_icmp .eq 21, 3) := by decide +kernel
theorem dX5_field_26 : decode cX5_field 26 = .ok (.iload 4, 2) := by decide +kernel
theorem dX5_field_28 : decode cX5_field 28 = .ok (.invokestatic 46, 3) := by decide +kernel
theorem dX5_field_31 : decode cX5_field 31 = .ok (.ifCond .ne 13, 3) := by decide +kernel
theorem dX5_field_34 : decode cX5_field 34 = .ok (.new 53, 3) := by decide +kernel
theorem dX5_field_37 : decode cX5_field 37 = .ok (.dup, 1) := by decide +kernel
theorem dX5_field_38 : decode cX5_field 38 = .ok (.ldc 55, 2) := by decide +kernel
theorem dX5_field_40 : decode cX5_field 40 = .ok (.invokespecial 57, 3) := by decide +kernel
theorem dX5_field_43 : decode cX5_field 43 = .ok (.athrow, 1) := by decide +kernel
theorem dX5_field_44 : decode cX5_field 44 = .ok (.iload_n 2, 1) := by decide +kernel
theorem dX5_field_45 : decode cX5_field 45 = .ok (.iconst 3, 1) := by decide +kernel
theorem dX5_field_46 : decode cX5_field 46 = .ok (.if_icmp .ne 20, 3) := by decide +kernel
theorem dX5_field_49 : decode cX5_field 49 = .ok (.iload_n 3, 1) := by decide +kernel
theorem dX5_field_50 : decode cX5_field 50 = .ok (.invokestatic 60, 3) := by decide +kernel
theorem dX5_field_53 : decode cX5_field 53 = .ok (.ifCond .ne 13, 3) := by decide +kernel
theorem dX5_field_56 : decode cX5_field 56 = .ok (.new 53, 3) := by decide +kernel
theorem dX5_field_59 : decode cX5_field 59 = .ok (.dup, 1) := by decide +kernel
theorem dX5_field_60 : decode cX5_field 60 = .ok (.ldc 63, 2) := by decide +kernel
theorem dX5_field_62 : decode cX5_field 62 = .ok (.invokespecial 57, 3) := by decide +kernel
theorem dX5_field_65 : decode cX5_field 65 = .ok (.athrow, 1) := by decide +kernel
theorem dX5_field_66 : decode cX5_field 66 = .ok (.iload_n 2, 1) := by decide +kernel
theorem dX5_field_67 : decode cX5_field 67 = .ok (.iconst 4, 1) := by decide +kernel
theorem dX5_field_68 : decode cX5_field 68 = .ok (.if_icmp .ne 11, 3) := by decide +kernel
theorem dX5_field_71 : decode cX5_field 71 = .ok (.aload_n 0, 1) := by decide +kernel
theorem dX5_field_72 : decode cX5_field 72 = .ok (.iload_n 3, 1) := by decide +kernel
theorem dX5_field_73 : decode cX5_field 73 = .ok (.invokevirtual 65, 3) := by decide +kernel
theorem dX5_field_76 : decode cX5_field 76 = .ok (.goto 4, 3) := by decide +kernel
theorem dX5_field_79 : decode cX5_field 79 = .ok (.aconst_null, 1) := by decide +kernel
theorem dX5_field_80 : decode cX5_field 80 = .ok (.astore 5, 2) := by decide +kernel
theorem dX5_field_82 : decode cX5_field 82 = .ok (.iload_n 2, 1) := by decide +kernel
theorem dX5_field_83 : decode cX5_field 83 = .ok (.iconst 4, 1) := by decide +kernel
theorem dX5_field_84 : decode cX5_field 84 = .ok (.if_icmp .ne 18, 3) := by decide +kernel
theorem dX5_field_87 : decode cX5_field 87 = .ok (.aload 5, 2) := by decide +kernel
theorem dX5_field_89 : decode cX5_field 89 = .ok (.ifnonnull 13, 3) := by decide +kernel
theorem dX5_field_92 : decode cX5_field 92 = .ok (.new 69, 3) := by decide +kernel
theorem dX5_field_95 : decode cX5_field 95 = .ok (.dup, 1) := by decide +kernel
theorem dX5_field_96 : decode cX5_field 96 = .ok (.ldc 71, 2) := by decide +kernel
theorem dX5_field_98 : decode cX5_field 98 = .ok (.invokespecial 73, 3) := by decide +kernel
theorem dX5_field_101 : decode cX5_field 101 = .ok (.athrow, 1) := by decide +kernel
theorem dX5_field_102 : decode cX5_field 102 = .ok (.aload 5, 2) := by decide +kernel
theorem dX5_field_104 : decode cX5_field 104 = .ok (.ifnonnull 7, 3) := by decide +kernel
theorem dX5_field_107 : decode cX5_field 107 = .ok (.iconst 1, 1) := by decide +kernel
theorem dX5_field_108 : decode cX5_field 108 = .ok (.goto 11, 3) := by decide +kernel
theorem dX5_field_111 : decode cX5_field 111 = .ok (.aload 5, 2) := by decide +kernel
theorem dX5_field_113 : decode cX5_field 113 = .ok (.getfield 74, 3) := by decide +kernel
theorem dX5_field_116 : decode cX5_field 116 = .ok (.invokevirtual 77, 3) := by decide +kernel
theorem dX5_field_119 : decode cX5_field 119 = .ok (.istore 6, 2) := by decide +kernel
theorem dX5_field_121 : decode cX5_field 121 = .ok (.aload_n 0, 1) := by decide +kernel
theorem dX5_field_122 : decode cX5_field 122 = .ok (.getfield 29, 3) := by decide +kernel
theorem dX5_field_125 : decode cX5_field 125 = .ok (.getfield 81, 3) := by decide +kernel
theorem dX5_field_128 : decode cX5_field 128 = .ok (.invokevirtual 84, 3) := by decide +kernel
theorem dX5_field_131 : decode cX5_field 131 = .ok (.iconst 5, 1) := by decide +kernel
theorem dX5_field_132 : decode cX5_field 132 = .ok (.if_icmp .ge 32, 3) := by decide +kernel
theorem dX5_field_135 : decode cX5_field 135 = .ok (.aload_n 0, 1) := by decide +kernel
theorem dX5_field_136 : decode cX5_field 136 = .ok (.getfield 29, 3) := by decide +kernel
theorem dX5_field_139 : decode cX5_field 139 = .ok (.iload_n 1, 1) := by decide +kernel
theorem dX5_field_140 : decode cX5_field 140 = .ok (.invokevirtual 87, 3) := by decide +kernel
theorem dX5_field_143 : decode cX5_field 143 = .ok (.ifnonnull 21, 3) := by decide +kernel
theorem dX5_field_146 : decode cX5_field 146 = .ok (.aload_n 0, 1) := by decide +kernel
theorem dX5_field_147 : decode cX5_field 147 = .ok (.getfield 29, 3) := by decide +kernel
theorem dX5_field_150 : decode cX5_field 150 = .ok (.getfield 74, 3) := by decide +kernel
theorem dX5_field_153 : decode cX5_field 153 = .ok (.invokevirtual 77, 3) := by decide +kernel
theorem dX5_field_156 : decode cX5_field 156 = .ok (.iload 6, 2) := by decide +kernel
theorem dX5_field_158 : decode cX5_field 158 = .ok (.iadd, 1) := by decide +kernel
theorem dX5_field_159 : decode cX5_field 159 = .ok (.bipush 20, 2) := by decide +kernel
theorem dX5_field_161 : decode cX5_field 161 = .ok (.if_icmp .le 13, 3) := by decide +kernel
theorem dX5_field_164 : decode cX5_field 164 = .ok (.new 91, 3) := by decide +kernel
theorem dX5_field_167 : decode cX5_field 167 = .ok (.dup, 1) := by decide +kernel
theorem dX5_field_168 : decode cX5_field 168 = .ok (.ldc 93, 2) := by decide +kernel
theorem dX5_field_170 : decode cX5_field 170 = .ok (.invokespecial 95, 3) := by decide +kernel
theorem dX5_field_173 : decode cX5_field 173 = .ok (.athrow, 1) := by decide +kernel
theorem dX5_field_174 : decode cX5_field 174 = .ok (.iload_n 2, 1) := by decide +kernel
theorem dX5_field_175 : decode cX5_field 175 = .ok (.iconst 4, 1) := by decide +kernel
theorem dX5_field_176 : decode cX5_field 176 = .ok (.if_icmp .ne 7, 3) := by decide +kernel
theorem dX5_field_179 : decode cX5_field 179 = .ok (.iload_n 3, 1) := by decide +kernel
theorem dX5_field_180 : decode cX5_field 180 = .ok (.goto 4, 3) := by decide +kernel
theorem dX5_field_183 : decode cX5_field 183 = .ok (.iconst (-1), 1) := by decide +kernel
theorem dX5_field_184 : decode cX5_field 184 = .ok (.istore 7, 2) := by decide +kernel
theorem dX5_field_186 : decode cX5_field 186 = .ok (.aload_n 0, 1) := by decide +kernel
theorem dX5_field_187 : decode cX5_field 187 = .ok (.getfield 29, 3) := by decide +kernel
theorem dX5_field_190 : decode cX5_field 190 = .ok (.new 96, 3) := by decide +kernel
theorem dX5_field_193 : decode cX5_field 193 = .ok (.dup, 1) := by decide +kernel
theorem dX5_field_194 : decode cX5_field 194 = .ok (.iload_n 1, 1) := by decide +kernel
theorem dX5_field_195 : decode cX5_field 195 = .ok (.iload_n 2, 1) := by decide +kernel
theorem dX5_field_196 : decode cX5_field 196 = .ok (.iload_n 2, 1) := by decide +kernel
theorem dX5_field_197 : decode cX5_field 197 = .ok (.iload_n 3, 1) := by decide +kernel
theorem dX5_field_198 : decode cX5_field 198 = .ok (.invokestatic 98, 3) := by decide +kernel
theorem dX5_field_201 : decode cX5_field 201 = .ok (.iload 4, 2) := by decide +kernel
theorem dX5_field_203 : decode cX5_field 203 = .ok (.iload 7, 2) := by decide +kernel
theorem dX5_field_205 : decode cX5_field 205 = .ok (.aload 5, 2) := by decide +kernel
theorem dX5_field_207 : decode cX5_field 207 = .ok (.invokespecial 102, 3) := by decide +kernel
theorem dX5_field_210 : decode cX5_field 210 = .ok (.invokevirtual 105, 3) := by decide +kernel
theorem dX5_field_213 : decode cX5_field 213 = .ok (.aload_n 0, 1) := by decide +kernel
theorem dX5_field_214 : decode cX5_field 214 = .ok (.getfield 29, 3) := by decide +kernel
theorem dX5_field_217 : decode cX5_field 217 = .ok (.getfield 81, 3) := by decide +kernel
theorem dX5_field_220 : decode cX5_field 220 = .ok (.invokevirtual 84, 3) := by decide +kernel
theorem dX5_field_223 : decode cX5_field 223 = .ok (.ireturn, 1) := by decide +kernel
theorem dX5_byDefault_0 : decode cX5_byDefault 0 = .ok (.aload_n 0, 1) := by decide +kernel
theorem dX5_byDefault_1 : decode cX5_byDefault 1 = .ok (.getfield 29, 3) := by decide +kernel
theorem dX5_byDefault_4 : decode cX5_byDefault 4 = .ok (.invokevirtual 109, 3) := by decide +kernel
theorem dX5_byDefault_7 : decode cX5_byDefault 7 = .ok (.astore_n 2, 1) := by decide +kernel
theorem dX5_byDefault_8 : decode cX5_byDefault 8 = .ok (.aload_n 2, 1) := by decide +kernel
theorem dX5_byDefault_9 : decode cX5_byDefault 9 = .ok (.ifnull 11, 3) := by decide +kernel
theorem dX5_byDefault_12 : decode cX5_byDefault 12 = .ok (.aload_n 2, 1) := by decide +kernel
theorem dX5_byDefault_13 : decode cX5_byDefault 13 = .ok (.getfield 113, 3) := by decide +kernel
theorem dX5_byDefault_16 : decode cX5_byDefault 16 = .ok (.iconst 4, 1) := by decide +kernel
theorem dX5_byDefault_17 : decode cX5_byDefault 17 = .ok (.if_icmp .ne 13, 3) := by decide +kernel
theorem dX5_byDefault_20 : decode cX5_byDefault 20 = .ok (.new 91, 3) := by decide +kernel
theorem dX5_byDefault_23 : decode cX5_byDefault 23 = .ok (.dup, 1) := by decide +kernel
theorem dX5_byDefault_24 : decode cX5_byDefault 24 = .ok (.ldc 117, 2) := by decide +kernel
theorem dX5_byDefault_26 : decode cX5_byDefault 26 = .ok (.invokespecial 95, 3) := by decide +kernel
theorem dX5_byDefault_29 : decode cX5_byDefault 29 = .ok (.athrow, 1) := by decide +kernel
theorem dX5_byDefault_30 : decode cX5_byDefault 30 = .ok (.iload_n 1, 1) := by decide +kernel
theorem dX5_byDefault_31 : decode cX5_byDefault 31 = .ok (.aload_n 2, 1) := by decide +kernel
theorem dX5_byDefault_32 : decode cX5_byDefault 32 = .ok (.getfield 119, 3) := by decide +kernel
theorem dX5_byDefault_35 : decode cX5_byDefault 35 = .ok (.invokestatic 121, 3) := by decide +kernel
theorem dX5_byDefault_38 : decode cX5_byDefault 38 = .ok (.ifCond .ne 13, 3) := by decide +kernel
theorem dX5_byDefault_41 : decode cX5_byDefault 41 = .ok (.new 53, 3) := by decide +kernel
theorem dX5_byDefault_44 : decode cX5_byDefault 44 = .ok (.dup, 1) := by decide +kernel
theorem dX5_byDefault_45 : decode cX5_byDefault 45 = .ok (.ldc 125, 2) := by decide +kernel
theorem dX5_byDefault_47 : decode cX5_byDefault 47 = .ok (.invokespecial 57, 3) := by decide +kernel
theorem dX5_byDefault_50 : decode cX5_byDefault 50 = .ok (.athrow, 1) := by decide +kernel
theorem dX5_byDefault_51 : decode cX5_byDefault 51 = .ok (.aload_n 2, 1) := by decide +kernel
theorem dX5_byDefault_52 : decode cX5_byDefault 52 = .ok (.iconst 1, 1) := by decide +kernel
theorem dX5_byDefault_53 : decode cX5_byDefault 53 = .ok (.putfield 127, 3) := by decide +kernel
theorem dX5_byDefault_56 : decode cX5_byDefault 56 = .ok (.aload_n 2, 1) := by decide +kernel
theorem dX5_byDefault_57 : decode cX5_byDefault 57 = .ok (.iload_n 1, 1) := by decide +kernel
theorem dX5_byDefault_58 : decode cX5_byDefault 58 = .ok (.putfield 131, 3) := by decide +kernel
theorem dX5_byDefault_61 : decode cX5_byDefault 61 = .ok (.aload_n 2, 1) := by decide +kernel
theorem dX5_byDefault_62 : decode cX5_byDefault 62 = .ok (.getfield 134, 3) := by decide +kernel
theorem dX5_byDefault_65 : decode cX5_byDefault 65 = .ok (.ireturn, 1) := by decide +kernel
theorem dX5_discard_0 : decode cX5_discard 0 = .ok (.aload_n 0, 1) := by decide +kernel
theorem dX5_discard_1 : decode cX5_discard 1 = .ok (.getfield 29, 3) := by decide +kernel
theorem dX5_discard_4 : decode cX5_discard 4 = .ok (.getfield 81, 3) := by decide +kernel
theorem dX5_discard_7 : decode cX5_discard 7 = .ok (.invokevirtual 84, 3) := by decide +kernel
theorem dX5_discard_10 : decode cX5_discard 10 = .ok (.istore_n 1, 1) := by decide +kernel
theorem dX5_discard_11 : decode cX5_discard 11 = .ok (.aload_n 0, 1) := by decide +kernel
theorem dX5_discard_12 : decode cX5_discard 12 = .ok (.getfield 29, 3) := by decide +kernel
theorem dX5_discard_15 : decode cX5_discard 15 = .ok (.invokevirtual 137, 3) := by decide +kernel
theorem dX5_discard_18 : decode cX5_discard 18 = .ok (.iload_n 1, 1) := by decide +kernel
theorem dX5_discard_19 : decode cX5_discard 19 = .ok (.ireturn, 1) := by decide +kernel
theorem dX5_isAccepted_0 : decode cX5_isAccepted 0 = .ok (.aload_n 0, 1) := by decide +kernel
theorem dX5_isAccepted_1 : decode cX5_isAccepted 1 = .ok (.iload_n 1, 1) := by decide +kernel
theorem dX5_isAccepted_2 : decode cX5_isAccepted 2 = .ok (.invokevirtual 140, 3) := by decide +kernel
theorem dX5_isAccepted_5 : decode cX5_isAccepted 5 = .ok (.astore_n 2, 1) := by decide +kernel
theorem dX5_isAccepted_6 : decode cX5_isAccepted 6 = .ok (.aload_n 0, 1) := by decide +kernel
theorem dX5_isAccepted_7 : decode cX5_isAccepted 7 = .ok (.invokevirtual 144, 3) := by decide +kernel
theorem dX5_isAccepted_10 : decode cX5_isAccepted 10 = .ok (.aload_n 2, 1) := by decide +kernel
theorem dX5_isAccepted_11 : decode cX5_isAccepted 11 = .ok (.aload_n 0, 1) := by decide +kernel
theorem dX5_isAccepted_12 : decode cX5_isAccepted 12 = .ok (.getfield 29, 3) := by decide +kernel
theorem dX5_isAccepted_15 : decode cX5_isAccepted 15 = .ok (.invokevirtual 147, 3) := by decide +kernel
theorem dX5_isAccepted_18 : decode cX5_isAccepted 18 = .ok (.ireturn, 1) := by decide +kernel
theorem dX5_register_0 : decode cX5_register 0 = .ok (.aload_n 0, 1) := by decide +kernel
theorem dX5_register_1 : decode cX5_register 1 = .ok (.iload_n 1, 1) := by decide +kernel
theorem dX5_register_2 : decode cX5_register 2 = .ok (.invokevirtual 140, 3) := by decide +kernel
theorem dX5_register_5 : decode cX5_register 5 = .ok (.astore_n 2, 1) := by decide +kernel
theorem dX5_register_6 : decode cX5_register 6 = .ok (.aload_n 0, 1) := by decide +kernel
theorem dX5_register_7 : decode cX5_register 7 = .ok (.invokevirtual 144, 3) := by decide +kernel
theorem dX5_register_10 : decode cX5_register 10 = .ok (.aload_n 2, 1) := by decide +kernel
theorem dX5_register_11 : decode cX5_register 11 = .ok (.aload_n 0, 1) := by decide +kernel
theorem dX5_register_12 : decode cX5_register 12 = .ok (.getfield 29, 3) := by decide +kernel
theorem dX5_register_15 : decode cX5_register 15 = .ok (.invokevirtual 151, 3) := by decide +kernel
theorem dX5_register_18 : decode cX5_register 18 = .ok (.istore_n 3, 1) := by decide +kernel
theorem dX5_register_19 : decode cX5_register 19 = .ok (.iload_n 3, 1) := by decide +kernel
theorem dX5_register_20 : decode cX5_register 20 = .ok (.iconst (-1), 1) := by decide +kernel
theorem dX5_register_21 : decode cX5_register 21 = .ok (.if_icmp .eq 12, 3) := by decide +kernel
theorem dX5_register_24 : decode cX5_register 24 = .ok (.aload_n 0, 1) := by decide +kernel
theorem dX5_register_25 : decode cX5_register 25 = .ok (.getfield 29, 3) := by decide +kernel
theorem dX5_register_28 : decode cX5_register 28 = .ok (.invokevirtual 137, 3) := by decide +kernel
theorem dX5_register_31 : decode cX5_register 31 = .ok (.iload_n 3, 1) := by decide +kernel
theorem dX5_register_32 : decode cX5_register 32 = .ok (.ireturn, 1) := by decide +kernel
theorem dX5_register_33 : decode cX5_register 33 = .ok (.aload_n 2, 1) := by decide +kernel
theorem dX5_register_34 : decode cX5_register 34 = .ok (.getfield 155, 3) := by decide +kernel
theorem dX5_register_37 : decode cX5_register 37 = .ok (.invokevirtual 84, 3) := by decide +kernel
theorem dX5_register_40 : decode cX5_register 40 = .ok (.istore 4, 2) := by decide +kernel
theorem dX5_register_42 : decode cX5_register 42 = .ok (.iload 4, 2) := by decide +kernel
theorem dX5_register_44 : decode cX5_register 44 = .ok (.bipush 6, 2) := by decide +kernel
theorem dX5_register_46 : decode cX5_register 46 = .ok (.if_icmp .ge 14, 3) := by decide +kernel
theorem dX5_register_49 : decode cX5_register 49 = .ok (.aload_n 2, 1) := by decide +kernel
theorem dX5_register_50 : decode cX5_register 50 = .ok (.aload_n 0, 1) := by decide +kernel
theorem dX5_register_51 : decode cX5_register 51 = .ok (.getfield 29, 3) := by decide +kernel
theorem dX5_register_54 : decode cX5_register 54 = .ok (.invokevirtual 147, 3) := by decide +kernel
theorem dX5_register_57 : decode cX5_register 57 = .ok (.ifCond .ne 13, 3) := by decide +kernel
theorem dX5_register_60 : decode cX5_register 60 = .ok (.new 91, 3) := by decide +kernel
theorem dX5_register_63 : decode cX5_register 63 = .ok (.dup, 1) := by decide +kernel
theorem dX5_register_64 : decode cX5_register 64 = .ok (.ldc 158, 2) := by decide +kernel
theorem dX5_register_66 : decode cX5_register 66 = .ok (.invokespecial 95, 3) := by decide +kernel
theorem dX5_register_69 : decode cX5_register 69 = .ok (.athrow, 1) := by decide +kernel
theorem dX5_register_70 : decode cX5_register 70 = .ok (.aload_n 2, 1) := by decide +kernel
theorem dX5_register_71 : decode cX5_register 71 = .ok (.getfield 155, 3) := by decide +kernel
theorem dX5_register_74 : decode cX5_register 74 = .ok (.new 160, 3) := by decide +kernel
theorem dX5_register_77 : decode cX5_register 77 = .ok (.dup, 1) := by decide +kernel
theorem dX5_register_78 : decode cX5_register 78 = .ok (.aload_n 0, 1) := by decide +kernel
theorem dX5_register_79 : decode cX5_register 79 = .ok (.invokevirtual 162, 3) := by decide +kernel
theorem dX5_register_82 : decode cX5_register 82 = .ok (.invokespecial 166, 3) := by decide +kernel
theorem dX5_register_85 : decode cX5_register 85 = .ok (.invokevirtual 19, 3) := by decide +kernel
theorem dX5_register_88 : decode cX5_register 88 = .ok (.pop, 1) := by decide +kernel
theorem dX5_register_89 : decode cX5_register 89 = .ok (.iload 4, 2) := by decide +kernel
theorem dX5_register_91 : decode cX5_register 91 = .ok (.ireturn, 1) := by decide +kernel
theorem dX5_setMode_0 : decode cX5_setMode 0 = .ok (.aload_n 0, 1) := by decide +kernel
theorem dX5_setMode_1 : decode cX5_setMode 1 = .ok (.iload_n 1, 1) := by decide +kernel
theorem dX5_setMode_2 : decode cX5_setMode 2 = .ok (.invokevirtual 140, 3) := by decide +kernel
theorem dX5_setMode_5 : decode cX5_setMode 5 = .ok (.astore 4, 2) := by decide +kernel
theorem dX5_setMode_7 : decode cX5_setMode 7 = .ok (.iload_n 2, 1) := by decide +kernel
theorem dX5_setMode_8 : decode cX5_setMode 8 = .ok (.ifCond .lt 8, 3) := by decide +kernel
theorem dX5_setMode_11 : decode cX5_setMode 11 = .ok (.iload_n 2, 1) := by decide +kernel
theorem dX5_setMode_12 : decode cX5_setMode 12 = .ok (.iconst 3, 1) := by decide +kernel
theorem dX5_setMode_13 : decode cX5_setMode 13 = .ok (.if_icmp .le 13, 3) := by decide +kernel
theorem dX5_setMode_16 : decode cX5_setMode 16 = .ok (.new 53, 3) := by decide +kernel
theorem dX5_setMode_19 : decode cX5_setMode 19 = .ok (.dup, 1) := by decide +kernel
theorem dX5_setMode_20 : decode cX5_setMode 20 = .ok (.ldc 169, 2) := by decide +kernel
theorem dX5_setMode_22 : decode cX5_setMode 22 = .ok (.invokespecial 57, 3) := by decide +kernel
theorem dX5_setMode_25 : decode cX5_setMode 25 = .ok (.athrow, 1) := by decide +kernel
theorem dX5_setMode_26 : decode cX5_setMode 26 = .ok (.aload 4, 2) := by decide +kernel
theorem dX5_setMode_28 : decode cX5_setMode 28 = .ok (.getfield 171, 3) := by decide +kernel
theorem dX5_setMode_31 : decode cX5_setMode 31 = .ok (.istore 5, 2) := by decide +kernel
theorem dX5_setMode_33 : decode cX5_setMode 33 = .ok (.aload 4, 2) := by decide +kernel
theorem dX5_setMode_35 : decode cX5_setMode 35 = .ok (.iload_n 2, 1) := by decide +kernel
theorem dX5_setMode_36 : decode cX5_setMode 36 = .ok (.putfield 171, 3) := by decide +kernel
theorem dX5_setMode_39 : decode cX5_setMode 39 = .ok (.aload 4, 2) := by decide +kernel
theorem dX5_setMode_41 : decode cX5_setMode 41 = .ok (.iload_n 3, 1) := by decide +kernel
theorem dX5_setMode_42 : decode cX5_setMode 42 = .ok (.putfield 174, 3) := by decide +kernel
theorem dX5_setMode_45 : decode cX5_setMode 45 = .ok (.iload 5, 2) := by decide +kernel
theorem dX5_setMode_47 : decode cX5_setMode 47 = .ok (.ireturn, 1) := by decide +kernel
theorem dX5_delete_0 : decode cX5_delete 0 = .ok (.aload_n 0, 1) := by decide +kernel
theorem dX5_delete_1 : decode cX5_delete 1 = .ok (.iload_n 1, 1) := by decide +kernel
theorem dX5_delete_2 : decode cX5_delete 2 = .ok (.invokevirtual 140, 3) := by decide +kernel
theorem dX5_delete_5 : decode cX5_delete 5 = .ok (.astore 4, 2) := by decide +kernel
theorem dX5_delete_7 : decode cX5_delete 7 = .ok (.aload 4, 2) := by decide +kernel
theorem dX5_delete_9 : decode cX5_delete 9 = .ok (.iload_n 2, 1) := by decide +kernel
theorem dX5_delete_10 : decode cX5_delete 10 = .ok (.invokestatic 177, 3) := by decide +kernel
theorem dX5_delete_13 : decode cX5_delete 13 = .ok (.astore 5, 2) := by decide +kernel
theorem dX5_delete_15 : decode cX5_delete 15 = .ok (.iload_n 3, 1) := by decide +kernel
theorem dX5_delete_16 : decode cX5_delete 16 = .ok (.ifCond .eq 43, 3) := by decide +kernel
theorem dX5_delete_19 : decode cX5_delete 19 = .ok (.aload 5, 2) := by decide +kernel
theorem dX5_delete_21 : decode cX5_delete 21 = .ok (.getfield 181, 3) := by decide +kernel
theorem dX5_delete_24 : decode cX5_delete 24 = .ok (.ifCond .eq 16, 3) := by decide +kernel
theorem dX5_delete_27 : decode cX5_delete 27 = .ok (.aload_n 0, 1) := by decide +kernel
theorem dX5_delete_28 : decode cX5_delete 28 = .ok (.bipush 10, 2) := by decide +kernel
theorem dX5_delete_30 : decode cX5_delete 30 = .ok (.iload_n 1, 1) := by decide +kernel
theorem dX5_delete_31 : decode cX5_delete 31 = .ok (.imul, 1) := by decide +kernel
theorem dX5_delete_32 : decode cX5_delete 32 = .ok (.iload_n 2, 1) := by decide +kernel
theorem dX5_delete_33 : decode cX5_delete 33 = .ok (.iadd, 1) := by decide +kernel
theorem dX5_delete_34 : decode cX5_delete 34 = .ok (.invokevirtual 184, 3) := by decide +kernel
theorem dX5_delete_37 : decode cX5_delete 37 = .ok (.ifCond .eq 13, 3) := by decide +kernel
theorem dX5_delete_40 : decode cX5_delete 40 = .ok (.new 91, 3) := by decide +kernel
theorem dX5_delete_43 : decode cX5_delete 43 = .ok (.dup, 1) := by decide +kernel
theorem dX5_delete_44 : decode cX5_delete 44 = .ok (.ldc 187, 2) := by decide +kernel
theorem dX5_delete_46 : decode cX5_delete 46 = .ok (.invokespecial 95, 3) := by decide +kernel
theorem dX5_delete_49 : decode cX5_delete 49 = .ok (.athrow, 1) := by decide +kernel
theorem dX5_delete_50 : decode cX5_delete 50 = .ok (.aload 5, 2) := by decide +kernel
theorem dX5_delete_52 : decode cX5_delete 52 = .ok (.iconst 2, 1) := by decide +kernel
theorem dX5_delete_53 : decode cX5_delete 53 = .ok (.putfield 181, 3) := by decide +kernel
theorem dX5_delete_56 : decode cX5_delete 56 = .ok (.goto 27, 3) := by decide +kernel
theorem dX5_delete_59 : decode cX5_delete 59 = .ok (.aload 5, 2) := by decide +kernel
theorem dX5_delete_61 : decode cX5_delete 61 = .ok (.getfield 181, 3) := by decide +kernel
theorem dX5_delete_64 : decode cX5_delete 64 = .ok (.ifCond .eq 13, 3) := by decide +kernel
theorem dX5_delete_67 : decode cX5_delete 67 = .ok (.new 91, 3) := by decide +kernel
theorem dX5_delete_70 : decode cX5_delete 70 = .ok (.dup, 1) := by decide +kernel
theorem dX5_delete_71 : decode cX5_delete 71 = .ok (.ldc 189, 2) := by decide +kernel
theorem dX5_delete_73 : decode cX5_delete 73 = .ok (.invokespecial 95, 3) := by decide +kernel
theorem dX5_delete_76 : decode cX5_delete 76 = .ok (.athrow, 1) := by decide +kernel
theorem dX5_delete_77 : decode cX5_delete 77 = .ok (.aload 5, 2) := by decide +kernel
theorem dX5_delete_79 : decode cX5_delete 79 = .ok (.iconst 1, 1) := by decide +kernel
theorem dX5_delete_80 : decode cX5_delete 80 = .ok (.putfield 181, 3) := by decide +kernel
theorem dX5_delete_83 : decode cX5_delete 83 = .ok (.aload 4, 2) := by decide +kernel
theorem dX5_delete_85 : decode cX5_delete 85 = .ok (.invokevirtual 191, 3) := by decide +kernel
theorem dX5_delete_88 : decode cX5_delete 88 = .ok (.ireturn, 1) := by decide +kernel
theorem dX5_versions_0 : decode cX5_versions 0 = .ok (.aload_n 0, 1) := by decide +kernel
theorem dX5_versions_1 : decode cX5_versions 1 = .ok (.iload_n 1, 1) := by decide +kernel
theorem dX5_versions_2 : decode cX5_versions 2 = .ok (.invokevirtual 140, 3) := by decide +kernel
theorem dX5_versions_5 : decode cX5_versions 5 = .ok (.getfield 155, 3) := by decide +kernel
theorem dX5_versions_8 : decode cX5_versions 8 = .ok (.invokevirtual 84, 3) := by decide +kernel
theorem dX5_versions_11 : decode cX5_versions 11 = .ok (.ireturn, 1) := by decide +kernel
theorem dX5_number_0 : decode cX5_number 0 = .ok (.aload_n 0, 1) := by decide +kernel
theorem dX5_number_1 : decode cX5_number 1 = .ok (.iload_n 1, 1) := by decide +kernel
theorem dX5_number_2 : decode cX5_number 2 = .ok (.iload_n 2, 1) := by decide +kernel
theorem dX5_number_3 : decode cX5_number 3 = .ok (.invokevirtual 194, 3) := by decide +kernel
theorem dX5_number_6 : decode cX5_number 6 = .ok (.getfield 198, 3) := by decide +kernel
theorem dX5_number_9 : decode cX5_number 9 = .ok (.ireturn, 1) := by decide +kernel
theorem dX5_isThere_0 : decode cX5_isThere 0 = .ok (.aload_n 0, 1) := by decide +kernel
theorem dX5_isThere_1 : decode cX5_isThere 1 = .ok (.iload_n 1, 1) := by decide +kernel
theorem dX5_isThere_2 : decode cX5_isThere 2 = .ok (.invokevirtual 140, 3) := by decide +kernel
theorem dX5_isThere_5 : decode cX5_isThere 5 = .ok (.iload_n 2, 1) := by decide +kernel
theorem dX5_isThere_6 : decode cX5_isThere 6 = .ok (.invokestatic 177, 3) := by decide +kernel
theorem dX5_isThere_9 : decode cX5_isThere 9 = .ok (.getfield 181, 3) := by decide +kernel
theorem dX5_isThere_12 : decode cX5_isThere 12 = .ok (.ifCond .ne 7, 3) := by decide +kernel
theorem dX5_isThere_15 : decode cX5_isThere 15 = .ok (.iconst 1, 1) := by decide +kernel
theorem dX5_isThere_16 : decode cX5_isThere 16 = .ok (.goto 4, 3) := by decide +kernel
theorem dX5_isThere_19 : decode cX5_isThere 19 = .ok (.iconst 0, 1) := by decide +kernel
theorem dX5_isThere_20 : decode cX5_isThere 20 = .ok (.ireturn, 1) := by decide +kernel
theorem dX5_length_0 : decode cX5_length 0 = .ok (.aload_n 0, 1) := by decide +kernel
theorem dX5_length_1 : decode cX5_length 1 = .ok (.iload_n 1, 1) := by decide +kernel
theorem dX5_length_2 : decode cX5_length 2 = .ok (.iload_n 2, 1) := by decide +kernel
theorem dX5_length_3 : decode cX5_length 3 = .ok (.invokevirtual 194, 3) := by decide +kernel
theorem dX5_length_6 : decode cX5_length 6 = .ok (.getfield 74, 3) := by decide +kernel
theorem dX5_length_9 : decode cX5_length 9 = .ok (.invokevirtual 77, 3) := by decide +kernel
theorem dX5_length_12 : decode cX5_length 12 = .ok (.ireturn, 1) := by decide +kernel
theorem dX5_canRead_0 : decode cX5_canRead 0 = .ok (.aload_n 0, 1) := by decide +kernel
theorem dX5_canRead_1 : decode cX5_canRead 1 = .ok (.iload_n 1, 1) := by decide +kernel
theorem dX5_canRead_2 : decode cX5_canRead 2 = .ok (.iload_n 3, 1) := by decide +kernel
theorem dX5_canRead_3 : decode cX5_canRead 3 = .ok (.invokevirtual 201, 3) := by decide +kernel
theorem dX5_canRead_6 : decode cX5_canRead 6 = .ok (.aload_n 0, 1) := by decide +kernel
theorem dX5_canRead_7 : decode cX5_canRead 7 = .ok (.iload_n 1, 1) := by decide +kernel
theorem dX5_canRead_8 : decode cX5_canRead 8 = .ok (.iload_n 2, 1) := by decide +kernel
theorem dX5_canRead_9 : decode cX5_canRead 9 = .ok (.invokevirtual 194, 3) := by decide +kernel
theorem dX5_canRead_12 : decode cX5_canRead 12 = .ok (.astore 5, 2) := by decide +kernel
theorem dX5_canRead_14 : decode cX5_canRead 14 = .ok (.aload_n 0, 1) := by decide +kernel
theorem dX5_canRead_15 : decode cX5_canRead 15 = .ok (.iload_n 3, 1) := by decide +kernel
theorem dX5_canRead_16 : decode cX5_canRead 16 = .ok (.iload 4, 2) := by decide +kernel
theorem dX5_canRead_18 : decode cX5_canRead 18 = .ok (.invokevirtual 194, 3) := by decide +kernel
theorem dX5_canRead_21 : decode cX5_canRead 21 = .ok (.astore 6, 2) := by decide +kernel
theorem dX5_canRead_23 : decode cX5_canRead 23 = .ok (.aload 5, 2) := by decide +kernel
theorem dX5_canRead_25 : decode cX5_canRead 25 = .ok (.aload 6, 2) := by decide +kernel
theorem dX5_canRead_27 : decode cX5_canRead 27 = .ok (.iconst 0, 1) := by decide +kernel
theorem dX5_canRead_28 : decode cX5_canRead 28 = .ok (.invokestatic 205, 3) := by decide +kernel
theorem dX5_canRead_31 : decode cX5_canRead 31 = .ok (.ireturn, 1) := by decide +kernel
theorem dX5_readsAll_0 : decode cX5_readsAll 0 = .ok (.aload_n 0, 1) := by decide +kernel
theorem dX5_readsAll_1 : decode cX5_readsAll 1 = .ok (.iload_n 1, 1) := by decide +kernel
theorem dX5_readsAll_2 : decode cX5_readsAll 2 = .ok (.iload_n 3, 1) := by decide +kernel
theorem dX5_readsAll_3 : decode cX5_readsAll 3 = .ok (.invokevirtual 201, 3) := by decide +kernel
theorem dX5_readsAll_6 : decode cX5_readsAll 6 = .ok (.aload_n 0, 1) := by decide +kernel
theorem dX5_readsAll_7 : decode cX5_readsAll 7 = .ok (.iload_n 1, 1) := by decide +kernel
theorem dX5_readsAll_8 : decode cX5_readsAll 8 = .ok (.iload_n 2, 1) := by decide +kernel
theorem dX5_readsAll_9 : decode cX5_readsAll 9 = .ok (.invokevirtual 194, 3) := by decide +kernel
theorem dX5_readsAll_12 : decode cX5_readsAll 12 = .ok (.astore 5, 2) := by decide +kernel
theorem dX5_readsAll_14 : decode cX5_readsAll 14 = .ok (.aload_n 0, 1) := by decide +kernel
theorem dX5_readsAll_15 : decode cX5_readsAll 15 = .ok (.iload_n 3, 1) := by decide +kernel
theorem dX5_readsAll_16 : decode cX5_readsAll 16 = .ok (.iload 4, 2) := by decide +kernel
theorem dX5_readsAll_18 : decode cX5_readsAll 18 = .ok (.invokevirtual 194, 3) := by decide +kernel
theorem dX5_readsAll_21 : decode cX5_readsAll 21 = .ok (.astore 6, 2) := by decide +kernel
theorem dX5_readsAll_23 : decode cX5_readsAll 23 = .ok (.aload 6, 2) := by decide +kernel
theorem dX5_readsAll_25 : decode cX5_readsAll 25 = .ok (.getfield 74, 3) := by decide +kernel
theorem dX5_readsAll_28 : decode cX5_readsAll 28 = .ok (.invokestatic 209, 3) := by decide +kernel
theorem dX5_readsAll_31 : decode cX5_readsAll 31 = .ok (.istore 7, 2) := by decide +kernel
theorem dX5_readsAll_33 : decode cX5_readsAll 33 = .ok (.iload 7, 2) := by decide +kernel
theorem dX5_readsAll_35 : decode cX5_readsAll 35 = .ok (.sipush 300, 3) := by decide +kernel
theorem dX5_readsAll_38 : decode cX5_readsAll 38 = .ok (.if_icmp .le 13, 3) := by decide +kernel
theorem dX5_readsAll_41 : decode cX5_readsAll 41 = .ok (.new 91, 3) := by decide +kernel
theorem dX5_readsAll_44 : decode cX5_readsAll 44 = .ok (.dup, 1) := by decide +kernel
theorem dX5_readsAll_45 : decode cX5_readsAll 45 = .ok (.ldc 213, 2) := by decide +kernel
theorem dX5_readsAll_47 : decode cX5_readsAll 47 = .ok (.invokespecial 95, 3) := by decide +kernel
theorem dX5_readsAll_50 : decode cX5_readsAll 50 = .ok (.athrow, 1) := by decide +kernel
theorem dX5_readsAll_51 : decode cX5_readsAll 51 = .ok (.iconst 0, 1) := by decide +kernel
theorem dX5_readsAll_52 : decode cX5_readsAll 52 = .ok (.istore 8, 2) := by decide +kernel
theorem dX5_readsAll_54 : decode cX5_readsAll 54 = .ok (.iload 8, 2) := by decide +kernel
theorem dX5_readsAll_56 : decode cX5_readsAll 56 = .ok (.iload 7, 2) := by decide +kernel
theorem dX5_readsAll_58 : decode cX5_readsAll 58 = .ok (.if_icmp .ge 52, 3) := by decide +kernel
theorem dX5_readsAll_61 : decode cX5_readsAll 61 = .ok (.aload_n 0, 1) := by decide +kernel
theorem dX5_readsAll_62 : decode cX5_readsAll 62 = .ok (.getfield 43, 3) := by decide +kernel
theorem dX5_readsAll_65 : decode cX5_readsAll 65 = .ok (.aload 6, 2) := by decide +kernel
theorem dX5_readsAll_67 : decode cX5_readsAll 67 = .ok (.getfield 74, 3) := by decide +kernel
theorem dX5_readsAll_70 : decode cX5_readsAll 70 = .ok (.iload 8, 2) := by decide +kernel
theorem dX5_readsAll_72 : decode cX5_readsAll 72 = .ok (.invokestatic 215, 3) := by decide +kernel
theorem dX5_readsAll_75 : decode cX5_readsAll 75 = .ok (.aload_n 0, 1) := by decide +kernel
theorem dX5_readsAll_76 : decode cX5_readsAll 76 = .ok (.getfield 40, 3) := by decide +kernel
theorem dX5_readsAll_79 : decode cX5_readsAll 79 = .ok (.invokevirtual 219, 3) := by decide +kernel
theorem dX5_readsAll_82 : decode cX5_readsAll 82 = .ok (.aload 5, 2) := by decide +kernel
theorem dX5_readsAll_84 : decode cX5_readsAll 84 = .ok (.aload 6, 2) := by decide +kernel
theorem dX5_readsAll_86 : decode cX5_readsAll 86 = .ok (.aload_n 0, 1) := by decide +kernel
theorem dX5_readsAll_87 : decode cX5_readsAll 87 = .ok (.getfield 43, 3) := by decide +kernel
theorem dX5_readsAll_90 : decode cX5_readsAll 90 = .ok (.iconst 0, 1) := by decide +kernel
theorem dX5_readsAll_91 : decode cX5_readsAll 91 = .ok (.aload_n 0, 1) := by decide +kernel
theorem dX5_readsAll_92 : decode cX5_readsAll 92 = .ok (.getfield 40, 3) := by decide +kernel
theorem dX5_readsAll_95 : decode cX5_readsAll 95 = .ok (.iconst 0, 1) := by decide +kernel
theorem dX5_readsAll_96 : decode cX5_readsAll 96 = .ok (.invokestatic 220, 3) := by decide +kernel
theorem dX5_readsAll_99 : decode cX5_readsAll 99 = .ok (.ifCond .ne 5, 3) := by decide +kernel
theorem dX5_readsAll_102 : decode cX5_readsAll 102 = .ok (.iconst 0, 1) := by decide +kernel
theorem dX5_readsAll_103 : decode cX5_readsAll 103 = .ok (.ireturn, 1) := by decide +kernel
theorem dX5_readsAll_104 : decode cX5_readsAll 104 = .ok (.iinc 8 1, 3) := by decide +kernel
theorem dX5_readsAll_107 : decode cX5_readsAll 107 = .ok (.goto (-53), 3) := by decide +kernel
theorem dX5_readsAll_110 : decode cX5_readsAll 110 = .ok (.iconst 1, 1) := by decide +kernel
theorem dX5_readsAll_111 : decode cX5_readsAll 111 = .ok (.ireturn, 1) := by decide +kernel
theorem dX5_value_0 : decode cX5_value 0 = .ok (.aload_n 0, 1) := by decide +kernel
theorem dX5_value_1 : decode cX5_value 1 = .ok (.getfield 36, 3) := by decide +kernel
theorem dX5_value_4 : decode cX5_value 4 = .ok (.invokevirtual 77, 3) := by decide +kernel
theorem dX5_value_7 : decode cX5_value 7 = .ok (.bipush 20, 2) := by decide +kernel
theorem dX5_value_9 : decode cX5_value 9 = .ok (.if_icmp .lt 13, 3) := by decide +kernel
theorem dX5_value_12 : decode cX5_value 12 = .ok (.new 91, 3) := by decide +kernel
theorem dX5_value_15 : decode cX5_value 15 = .ok (.dup, 1) := by decide +kernel
theorem dX5_value_16 : decode cX5_value 16 = .ok (.ldc 224, 2) := by decide +kernel
theorem dX5_value_18 : decode cX5_value 18 = .ok (.invokespecial 95, 3) := by decide +kernel
theorem dX5_value_21 : decode cX5_value 21 = .ok (.athrow, 1) := by decide +kernel
theorem dX5_value_22 : decode cX5_value 22 = .ok (.aload_n 0, 1) := by decide +kernel
theorem dX5_value_23 : decode cX5_value 23 = .ok (.getfield 36, 3) := by decide +kernel
theorem dX5_value_26 : decode cX5_value 26 = .ok (.iload_n 1, 1) := by decide +kernel
theorem dX5_value_27 : decode cX5_value 27 = .ok (.invokevirtual 226, 3) := by decide +kernel
theorem dX5_value_30 : decode cX5_value 30 = .ok (.aload_n 0, 1) := by decide +kernel
theorem dX5_value_31 : decode cX5_value 31 = .ok (.getfield 36, 3) := by decide +kernel
theorem dX5_value_34 : decode cX5_value 34 = .ok (.invokevirtual 77, 3) := by decide +kernel
theorem dX5_value_37 : decode cX5_value 37 = .ok (.ireturn, 1) := by decide +kernel
theorem dX5_clear_0 : decode cX5_clear 0 = .ok (.aload_n 0, 1) := by decide +kernel
theorem dX5_clear_1 : decode cX5_clear 1 = .ok (.getfield 36, 3) := by decide +kernel
theorem dX5_clear_4 : decode cX5_clear 4 = .ok (.invokevirtual 77, 3) := by decide +kernel
theorem dX5_clear_7 : decode cX5_clear 7 = .ok (.istore_n 1, 1) := by decide +kernel
theorem dX5_clear_8 : decode cX5_clear 8 = .ok (.aload_n 0, 1) := by decide +kernel
theorem dX5_clear_9 : decode cX5_clear 9 = .ok (.getfield 36, 3) := by decide +kernel
theorem dX5_clear_12 : decode cX5_clear 12 = .ok (.invokevirtual 219, 3) := by decide +kernel
theorem dX5_clear_15 : decode cX5_clear 15 = .ok (.iload_n 1, 1) := by decide +kernel
theorem dX5_clear_16 : decode cX5_clear 16 = .ok (.ireturn, 1) := by decide +kernel
theorem dX5_isRecord_0 : decode cX5_isRecord 0 = .ok (.aload_n 0, 1) := by decide +kernel
theorem dX5_isRecord_1 : decode cX5_isRecord 1 = .ok (.aload_n 0, 1) := by decide +kernel
theorem dX5_isRecord_2 : decode cX5_isRecord 2 = .ok (.iload_n 1, 1) := by decide +kernel
theorem dX5_isRecord_3 : decode cX5_isRecord 3 = .ok (.iload_n 2, 1) := by decide +kernel
theorem dX5_isRecord_4 : decode cX5_isRecord 4 = .ok (.invokevirtual 194, 3) := by decide +kernel
theorem dX5_isRecord_7 : decode cX5_isRecord 7 = .ok (.invokevirtual 229, 3) := by decide +kernel
theorem dX5_isRecord_10 : decode cX5_isRecord 10 = .ok (.ireturn, 1) := by decide +kernel
theorem dX5_read_0 : decode cX5_read 0 = .ok (.aload_n 0, 1) := by decide +kernel
theorem dX5_read_1 : decode cX5_read 1 = .ok (.iload_n 1, 1) := by decide +kernel
theorem dX5_read_2 : decode cX5_read 2 = .ok (.iload_n 3, 1) := by decide +kernel
theorem dX5_read_3 : decode cX5_read 3 = .ok (.invokevirtual 201, 3) := by decide +kernel
theorem dX5_read_6 : decode cX5_read 6 = .ok (.aload_n 0, 1) := by decide +kernel
theorem dX5_read_7 : decode cX5_read 7 = .ok (.iload_n 1, 1) := by decide +kernel
theorem dX5_read_8 : decode cX5_read 8 = .ok (.iload_n 2, 1) := by decide +kernel
theorem dX5_read_9 : decode cX5_read 9 = .ok (.invokevirtual 194, 3) := by decide +kernel
theorem dX5_read_12 : decode cX5_read 12 = .ok (.astore 5, 2) := by decide +kernel
theorem dX5_read_14 : decode cX5_read 14 = .ok (.aload_n 0, 1) := by decide +kernel
theorem dX5_read_15 : decode cX5_read 15 = .ok (.iload_n 3, 1) := by decide +kernel
theorem dX5_read_16 : decode cX5_read 16 = .ok (.iload 4, 2) := by decide +kernel
theorem dX5_read_18 : decode cX5_read 18 = .ok (.invokevirtual 194, 3) := by decide +kernel
theorem dX5_read_21 : decode cX5_read 21 = .ok (.astore 6, 2) := by decide +kernel
theorem dX5_read_23 : decode cX5_read 23 = .ok (.aload_n 0, 1) := by decide +kernel
theorem dX5_read_24 : decode cX5_read 24 = .ok (.getfield 40, 3) := by decide +kernel
theorem dX5_read_27 : decode cX5_read 27 = .ok (.invokevirtual 219, 3) := by decide +kernel
theorem dX5_read_30 : decode cX5_read 30 = .ok (.aload_n 0, 1) := by decide +kernel
theorem dX5_read_31 : decode cX5_read 31 = .ok (.aload 6, 2) := by decide +kernel
theorem dX5_read_33 : decode cX5_read 33 = .ok (.invokevirtual 229, 3) := by decide +kernel
theorem dX5_read_36 : decode cX5_read 36 = .ok (.ifCond .eq 23, 3) := by decide +kernel
theorem dX5_read_39 : decode cX5_read 39 = .ok (.aload 5, 2) := by decide +kernel
theorem dX5_read_41 : decode cX5_read 41 = .ok (.aload 6, 2) := by decide +kernel
theorem dX5_read_43 : decode cX5_read 43 = .ok (.aload_n 0, 1) := by decide +kernel
theorem dX5_read_44 : decode cX5_read 44 = .ok (.getfield 36, 3) := by decide +kernel
theorem dX5_read_47 : decode cX5_read 47 = .ok (.iconst 0, 1) := by decide +kernel
theorem dX5_read_48 : decode cX5_read 48 = .ok (.aload_n 0, 1) := by decide +kernel
theorem dX5_read_49 : decode cX5_read 49 = .ok (.getfield 40, 3) := by decide +kernel
theorem dX5_read_52 : decode cX5_read 52 = .ok (.iconst 0, 1) := by decide +kernel
theorem dX5_read_53 : decode cX5_read 53 = .ok (.invokestatic 220, 3) := by decide +kernel
theorem dX5_read_56 : decode cX5_read 56 = .ok (.ifCond .ne 13, 3) := by decide +kernel
theorem dX5_read_59 : decode cX5_read 59 = .ok (.new 91, 3) := by decide +kernel
theorem dX5_read_62 : decode cX5_read 62 = .ok (.dup, 1) := by decide +kernel
theorem dX5_read_63 : decode cX5_read 63 = .ok (.ldc 232, 2) := by decide +kernel
theorem dX5_read_65 : decode cX5_read 65 = .ok (.invokespecial 95, 3) := by decide +kernel
theorem dX5_read_68 : decode cX5_read 68 = .ok (.athrow, 1) := by decide +kernel
theorem dX5_read_69 : decode cX5_read 69 = .ok (.aload_n 0, 1) := by decide +kernel
theorem dX5_read_70 : decode cX5_read 70 = .ok (.getfield 36, 3) := by decide +kernel
theorem dX5_read_73 : decode cX5_read 73 = .ok (.astore 7, 2) := by decide +kernel
theorem dX5_read_75 : decode cX5_read 75 = .ok (.aload_n 0, 1) := by decide +kernel
theorem dX5_read_76 : decode cX5_read 76 = .ok (.aload_n 0, 1) := by decide +kernel
theorem dX5_read_77 : decode cX5_read 77 = .ok (.getfield 40, 3) := by decide +kernel
theorem dX5_read_80 : decode cX5_read 80 = .ok (.putfield 36, 3) := by decide +kernel
theorem dX5_read_83 : decode cX5_read 83 = .ok (.aload_n 0, 1) := by decide +kernel
theorem dX5_read_84 : decode cX5_read 84 = .ok (.aload 7, 2) := by decide +kernel
theorem dX5_read_86 : decode cX5_read 86 = .ok (.putfield 40, 3) := by decide +kernel
theorem dX5_read_89 : decode cX5_read 89 = .ok (.aload_n 0, 1) := by decide +kernel
theorem dX5_read_90 : decode cX5_read 90 = .ok (.getfield 36, 3) := by decide +kernel
theorem dX5_read_93 : decode cX5_read 93 = .ok (.invokevirtual 77, 3) := by decide +kernel
theorem dX5_read_96 : decode cX5_read 96 = .ok (.ireturn, 1) := by decide +kernel
theorem dX5_valueAt_0 : decode cX5_valueAt 0 = .ok (.iload_n 1, 1) := by decide +kernel
theorem dX5_valueAt_1 : decode cX5_valueAt 1 = .ok (.ifCond .lt 14, 3) := by decide +kernel
theorem dX5_valueAt_4 : decode cX5_valueAt 4 = .ok (.iload_n 1, 1) := by decide +kernel
theorem dX5_valueAt_5 : decode cX5_valueAt 5 = .ok (.aload_n 0, 1) := by decide +kernel
theorem dX5_valueAt_6 : decode cX5_valueAt 6 = .ok (.getfield 36, 3) := by decide +kernel
theorem dX5_valueAt_9 : decode cX5_valueAt 9 = .ok (.invokevirtual 77, 3) := by decide +kernel
theorem dX5_valueAt_12 : decode cX5_valueAt 12 = .ok (.if_icmp .lt 13, 3) := by decide +kernel
theorem dX5_valueAt_15 : decode cX5_valueAt 15 = .ok (.new 69, 3) := by decide +kernel
theorem dX5_valueAt_18 : decode cX5_valueAt 18 = .ok (.dup, 1) := by decide +kernel
theorem dX5_valueAt_19 : decode cX5_valueAt 19 = .ok (.ldc 234, 2) := by decide +kernel
theorem dX5_valueAt_21 : decode cX5_valueAt 21 = .ok (.invokespecial 73, 3) := by decide +kernel
theorem dX5_valueAt_24 : decode cX5_valueAt 24 = .ok (.athrow, 1) := by decide +kernel
theorem dX5_valueAt_25 : decode cX5_valueAt 25 = .ok (.aload_n 0, 1) := by decide +kernel
theorem dX5_valueAt_26 : decode cX5_valueAt 26 = .ok (.getfield 36, 3) := by decide +kernel
theorem dX5_valueAt_29 : decode cX5_valueAt 29 = .ok (.iload_n 1, 1) := by decide +kernel
theorem dX5_valueAt_30 : decode cX5_valueAt 30 = .ok (.invokevirtual 236, 3) := by decide +kernel
theorem dX5_valueAt_33 : decode cX5_valueAt 33 = .ok (.ireturn, 1) := by decide +kernel
theorem dX5_demandedSubject_0 : decode cX5_demandedSubject 0 = .ok (.iload_n 1, 1) := by decide +kernel
theorem dX5_demandedSubject_1 : decode cX5_demandedSubject 1 = .ok (.ifCond .lt 14, 3) := by decide +kernel
theorem dX5_demandedSubject_4 : decode cX5_demandedSubject 4 = .ok (.iload_n 1, 1) := by decide +kernel
theorem dX5_demandedSubject_5 : decode cX5_demandedSubject 5 = .ok (.aload_n 0, 1) := by decide +kernel
theorem dX5_demandedSubject_6 : decode cX5_demandedSubject 6 = .ok (.getfield 10, 3) := by decide +kernel
theorem dX5_demandedSubject_9 : decode cX5_demandedSubject 9 = .ok (.invokevirtual 84, 3) := by decide +kernel
theorem dX5_demandedSubject_12 : decode cX5_demandedSubject 12 = .ok (.if_icmp .lt 13, 3) := by decide +kernel
theorem dX5_demandedSubject_15 : decode cX5_demandedSubject 15 = .ok (.new 53, 3) := by decide +kernel
theorem dX5_demandedSubject_18 : decode cX5_demandedSubject 18 = .ok (.dup, 1) := by decide +kernel
theorem dX5_demandedSubject_19 : decode cX5_demandedSubject 19 = .ok (.ldc 240, 2) := by decide +kernel
theorem dX5_demandedSubject_21 : decode cX5_demandedSubject 21 = .ok (.invokespecial 57, 3) := by decide +kernel
theorem dX5_demandedSubject_24 : decode cX5_demandedSubject 24 = .ok (.athrow, 1) := by decide +kernel
theorem dX5_demandedSubject_25 : decode cX5_demandedSubject 25 = .ok (.aload_n 0, 1) := by decide +kernel
theorem dX5_demandedSubject_26 : decode cX5_demandedSubject 26 = .ok (.getfield 10, 3) := by decide +kernel
theorem dX5_demandedSubject_29 : decode cX5_demandedSubject 29 = .ok (.iload_n 1, 1) := by decide +kernel
theorem dX5_demandedSubject_30 : decode cX5_demandedSubject 30 = .ok (.invokevirtual 242, 3) := by decide +kernel
theorem dX5_demandedSubject_33 : decode cX5_demandedSubject 33 = .ok (.checkcast 16, 3) := by decide +kernel
theorem dX5_demandedSubject_36 : decode cX5_demandedSubject 36 = .ok (.areturn, 1) := by decide +kernel
theorem dX5_demandSubjects_0 : decode cX5_demandSubjects 0 = .ok (.aload_n 0, 1) := by decide +kernel
theorem dX5_demandSubjects_1 : decode cX5_demandSubjects 1 = .ok (.iload_n 1, 1) := by decide +kernel
theorem dX5_demandSubjects_2 : decode cX5_demandSubjects 2 = .ok (.invokevirtual 140, 3) := by decide +kernel
theorem dX5_demandSubjects_5 : decode cX5_demandSubjects 5 = .ok (.pop, 1) := by decide +kernel
theorem dX5_demandSubjects_6 : decode cX5_demandSubjects 6 = .ok (.aload_n 0, 1) := by decide +kernel
theorem dX5_demandSubjects_7 : decode cX5_demandSubjects 7 = .ok (.iload_n 2, 1) := by decide +kernel
theorem dX5_demandSubjects_8 : decode cX5_demandSubjects 8 = .ok (.invokevirtual 140, 3) := by decide +kernel
theorem dX5_demandSubjects_11 : decode cX5_demandSubjects 11 = .ok (.pop, 1) := by decide +kernel
theorem dX5_demandSubjects_12 : decode cX5_demandSubjects 12 = .ok (.return_, 1) := by decide +kernel
theorem dX5_demandedVersion_0 : decode cX5_demandedVersion 0 = .ok (.aload_n 0, 1) := by decide +kernel
theorem dX5_demandedVersion_1 : decode cX5_demandedVersion 1 = .ok (.iload_n 1, 1) := by decide +kernel
theorem dX5_demandedVersion_2 : decode cX5_demandedVersion 2 = .ok (.invokevirtual 246, 3) := by decide +kernel
theorem dX5_demandedVersion_5 : decode cX5_demandedVersion 5 = .ok (.astore_n 2, 1) := by decide +kernel
theorem dX5_demandedVersion_6 : decode cX5_demandedVersion 6 = .ok (.aload_n 2, 1) := by decide +kernel
theorem dX5_demandedVersion_7 : decode cX5_demandedVersion 7 = .ok (.ifnonnull 13, 3) := by decide +kernel
theorem dX5_demandedVersion_10 : decode cX5_demandedVersion 10 = .ok (.new 69, 3) := by decide +kernel
theorem dX5_demandedVersion_13 : decode cX5_demandedVersion 13 = .ok (.dup, 1) := by decide +kernel
theorem dX5_demandedVersion_14 : decode cX5_demandedVersion 14 = .ok (.ldc 250, 2) := by decide +kernel
theorem dX5_demandedVersion_16 : decode cX5_demandedVersion 16 = .ok (.invokespecial 73, 3) := by decide +kernel
theorem dX5_demandedVersion_19 : decode cX5_demandedVersion 19 = .ok (.athrow, 1) := by decide +kernel
theorem dX5_demandedVersion_20 : decode cX5_demandedVersion 20 = .ok (.aload_n 2, 1) := by decide +kernel
theorem dX5_demandedVersion_21 : decode cX5_demandedVersion 21 = .ok (.areturn, 1) := by decide +kernel
theorem dX5_demandedSchema_0 : decode cX5_demandedSchema 0 = .ok (.aload_n 0, 1) := by decide +kernel
theorem dX5_demandedSchema_1 : decode cX5_demandedSchema 1 = .ok (.iload_n 1, 1) := by decide +kernel
theorem dX5_demandedSchema_2 : decode cX5_demandedSchema 2 = .ok (.invokevirtual 140, 3) := by decide +kernel
theorem dX5_demandedSchema_5 : decode cX5_demandedSchema 5 = .ok (.iload_n 2, 1) := by decide +kernel
theorem dX5_demandedSchema_6 : decode cX5_demandedSchema 6 = .ok (.invokestatic 177, 3) := by decide +kernel
theorem dX5_demandedSchema_9 : decode cX5_demandedSchema 9 = .ok (.getfield 252, 3) := by decide +kernel
theorem dX5_demandedSchema_12 : decode cX5_demandedSchema 12 = .ok (.areturn, 1) := by decide +kernel
theorem dX5_demandDraft_0 : decode cX5_demandDraft 0 = .ok (.aload_n 0, 1) := by decide +kernel
theorem dX5_demandDraft_1 : decode cX5_demandDraft 1 = .ok (.getfield 29, 3) := by decide +kernel
theorem dX5_demandDraft_4 : decode cX5_demandDraft 4 = .ok (.getfield 81, 3) := by decide +kernel
theorem dX5_demandDraft_7 : decode cX5_demandDraft 7 = .ok (.invokevirtual 255, 3) := by decide +kernel
theorem dX5_demandDraft_10 : decode cX5_demandDraft 10 = .ok (.ifCond .eq 14, 3) := by decide +kernel
theorem dX5_demandDraft_13 : decode cX5_demandDraft 13 = .ok (.new 91, 3) := by decide +kernel
theorem dX5_demandDraft_16 : decode cX5_demandDraft 16 = .ok (.dup, 1) := by decide +kernel
theorem dX5_demandDraft_17 : decode cX5_demandDraft 17 = .ok (.ldc_w 259, 3) := by decide +kernel
theorem dX5_demandDraft_20 : decode cX5_demandDraft 20 = .ok (.invokespecial 95, 3) := by decide +kernel
theorem dX5_demandDraft_23 : decode cX5_demandDraft 23 = .ok (.athrow, 1) := by decide +kernel
theorem dX5_demandDraft_24 : decode cX5_demandDraft 24 = .ok (.return_, 1) := by decide +kernel
theorem dX5_isName_0 : decode cX5_isName 0 = .ok (.iload_n 0, 1) := by decide +kernel
theorem dX5_isName_1 : decode cX5_isName 1 = .ok (.ifCond .lt 13, 3) := by decide +kernel
theorem dX5_isName_4 : decode cX5_isName 4 = .ok (.iload_n 0, 1) := by decide +kernel
theorem dX5_isName_5 : decode cX5_isName 5 = .ok (.bipush 10, 2) := by decide +kernel
theorem dX5_isName_7 : decode cX5_isName 7 = .ok (.if_icmp .ge 7, 3) := by decide +kernel
theorem dX5_isName_10 : decode cX5_isName 10 = .ok (.iconst 1, 1) := by decide +kernel
theorem dX5_isName_11 : decode cX5_isName 11 = .ok (.goto 4, 3) := by decide +kernel
theorem dX5_isName_14 : decode cX5_isName 14 = .ok (.iconst 0, 1) := by decide +kernel
theorem dX5_isName_15 : decode cX5_isName 15 = .ok (.ireturn, 1) := by decide +kernel
theorem dX5_isType_0 : decode cX5_isType 0 = .ok (.iload_n 0, 1) := by decide +kernel
theorem dX5_isType_1 : decode cX5_isType 1 = .ok (.ifCond .lt 12, 3) := by decide +kernel
theorem dX5_isType_4 : decode cX5_isType 4 = .ok (.iload_n 0, 1) := by decide +kernel
theorem dX5_isType_5 : decode cX5_isType 5 = .ok (.iconst 4, 1) := by decide +kernel
theorem dX5_isType_6 : decode cX5_isType 6 = .ok (.if_icmp .gt 7, 3) := by decide +kernel
theorem dX5_isType_9 : decode cX5_isType 9 = .ok (.iconst 1, 1) := by decide +kernel
theorem dX5_isType_10 : decode cX5_isType 10 = .ok (.goto 4, 3) := by decide +kernel
theorem dX5_isType_13 : decode cX5_isType 13 = .ok (.iconst 0, 1) := by decide +kernel
theorem dX5_isType_14 : decode cX5_isType 14 = .ok (.ireturn, 1) := by decide +kernel
theorem dX5_isSize_0 : decode cX5_isSize 0 = .ok (.iload_n 0, 1) := by decide +kernel
theorem dX5_isSize_1 : decode cX5_isSize 1 = .ok (.iconst 1, 1) := by decide +kernel
theorem dX5_isSize_2 : decode cX5_isSize 2 = .ok (.if_icmp .lt 12, 3) := by decide +kernel
theorem dX5_isSize_5 : decode cX5_isSize 5 = .ok (.iload_n 0, 1) := by decide +kernel
theorem dX5_isSize_6 : decode cX5_isSize 6 = .ok (.iconst 4, 1) := by decide +kernel
theorem dX5_isSize_7 : decode cX5_isSize 7 = .ok (.if_icmp .gt 7, 3) := by decide +kernel
theorem dX5_isSize_10 : decode cX5_isSize 10 = .ok (.iconst 1, 1) := by decide +kernel
theorem dX5_isSize_11 : decode cX5_isSize 11 = .ok (.goto 4, 3) := by decide +kernel
theorem dX5_isSize_14 : decode cX5_isSize 14 = .ok (.iconst 0, 1) := by decide +kernel
theorem dX5_isSize_15 : decode cX5_isSize 15 = .ok (.ireturn, 1) := by decide +kernel
theorem dX5_sizeOf_0 : decode cX5_sizeOf 0 = .ok (.iload_n 0, 1) := by decide +kernel
theorem dX5_sizeOf_1 : decode cX5_sizeOf 1 = .ok (.iconst 2, 1) := by decide +kernel
theorem dX5_sizeOf_2 : decode cX5_sizeOf 2 = .ok (.if_icmp .ne 5, 3) := by decide +kernel
theorem dX5_sizeOf_5 : decode cX5_sizeOf 5 = .ok (.iconst 2, 1) := by decide +kernel
theorem dX5_sizeOf_6 : decode cX5_sizeOf 6 = .ok (.ireturn, 1) := by decide +kernel
theorem dX5_sizeOf_7 : decode cX5_sizeOf 7 = .ok (.iload_n 0, 1) := by decide +kernel
theorem dX5_sizeOf_8 : decode cX5_sizeOf 8 = .ok (.iconst 3, 1) := by decide +kernel
theorem dX5_sizeOf_9 : decode cX5_sizeOf 9 = .ok (.if_icmp .ne 7, 3) := by decide +kernel
theorem dX5_sizeOf_12 : decode cX5_sizeOf 12 = .ok (.iload_n 1, 1) := by decide +kernel
theorem dX5_sizeOf_13 : decode cX5_sizeOf 13 = .ok (.goto 4, 3) := by decide +kernel
theorem dX5_sizeOf_16 : decode cX5_sizeOf 16 = .ok (.iconst 0, 1) := by decide +kernel
theorem dX5_sizeOf_17 : decode cX5_sizeOf 17 = .ok (.ireturn, 1) := by decide +kernel
theorem dX5_isOfSize_0 : decode cX5_isOfSize 0 = .ok (.iload_n 1, 1) := by decide +kernel
theorem dX5_isOfSize_1 : decode cX5_isOfSize 1 = .ok (.ifCond .eq 12, 3) := by decide +kernel
theorem dX5_isOfSize_4 : decode cX5_isOfSize 4 = .ok (.iload_n 0, 1) := by decide +kernel
theorem dX5_isOfSize_5 : decode cX5_isOfSize 5 = .ok (.ifCond .lt 12, 3) := by decide +kernel
theorem dX5_isOfSize_8 : decode cX5_isOfSize 8 = .ok (.iload_n 0, 1) := by decide +kernel
theorem dX5_isOfSize_9 : decode cX5_isOfSize 9 = .ok (.iload_n 1, 1) := by decide +kernel
theorem dX5_isOfSize_10 : decode cX5_isOfSize 10 = .ok (.if_icmp .ge 7, 3) := by decide +kernel
theorem dX5_isOfSize_13 : decode cX5_isOfSize 13 = .ok (.iconst 1, 1) := by decide +kernel
theorem dX5_isOfSize_14 : decode cX5_isOfSize 14 = .ok (.goto 4, 3) := by decide +kernel
theorem dX5_isOfSize_17 : decode cX5_isOfSize 17 = .ok (.iconst 0, 1) := by decide +kernel
theorem dX5_isOfSize_18 : decode cX5_isOfSize 18 = .ok (.ireturn, 1) := by decide +kernel
theorem dX5_referable_0 : decode cX5_referable 0 = .ok (.iload_n 1, 1) := by decide +kernel
theorem dX5_referable_1 : decode cX5_referable 1 = .ok (.ifCond .lt 17, 3) := by decide +kernel
theorem dX5_referable_4 : decode cX5_referable 4 = .ok (.iload_n 1, 1) := by decide +kernel
theorem dX5_referable_5 : decode cX5_referable 5 = .ok (.bipush 10, 2) := by decide +kernel
theorem dX5_referable_7 : decode cX5_referable 7 = .ok (.idiv, 1) := by decide +kernel
theorem dX5_referable_8 : decode cX5_referable 8 = .ok (.aload_n 0, 1) := by decide +kernel
theorem dX5_referable_9 : decode cX5_referable 9 = .ok (.getfield 10, 3) := by decide +kernel
theorem dX5_referable_12 : decode cX5_referable 12 = .ok (.invokevirtual 84, 3) := by decide +kernel
theorem dX5_referable_15 : decode cX5_referable 15 = .ok (.if_icmp .lt 5, 3) := by decide +kernel
theorem dX5_referable_18 : decode cX5_referable 18 = .ok (.aconst_null, 1) := by decide +kernel
theorem dX5_referable_19 : decode cX5_referable 19 = .ok (.areturn, 1) := by decide +kernel
theorem dX5_referable_20 : decode cX5_referable 20 = .ok (.aload_n 0, 1) := by decide +kernel
theorem dX5_referable_21 : decode cX5_referable 21 = .ok (.getfield 10, 3) := by decide +kernel
theorem dX5_referable_24 : decode cX5_referable 24 = .ok (.iload_n 1, 1) := by decide +kernel
theorem dX5_referable_25 : decode cX5_referable 25 = .ok (.bipush 10, 2) := by decide +kernel
theorem dX5_referable_27 : decode cX5_referable 27 = .ok (.idiv, 1) := by decide +kernel
theorem dX5_referable_28 : decode cX5_referable 28 = .ok (.invokevirtual 242, 3) := by decide +kernel
theorem dX5_referable_31 : decode cX5_referable 31 = .ok (.checkcast 16, 3) := by decide +kernel
theorem dX5_referable_34 : decode cX5_referable 34 = .ok (.iload_n 1, 1) := by decide +kernel
theorem dX5_referable_35 : decode cX5_referable 35 = .ok (.bipush 10, 2) := by decide +kernel
theorem dX5_referable_37 : decode cX5_referable 37 = .ok (.irem, 1) := by decide +kernel
theorem dX5_referable_38 : decode cX5_referable 38 = .ok (.invokevirtual 246, 3) := by decide +kernel
theorem dX5_referable_41 : decode cX5_referable 41 = .ok (.astore_n 2, 1) := by decide +kernel
theorem dX5_referable_42 : decode cX5_referable 42 = .ok (.aload_n 2, 1) := by decide +kernel
theorem dX5_referable_43 : decode cX5_referable 43 = .ok (.ifnull 10, 3) := by decide +kernel
theorem dX5_referable_46 : decode cX5_referable 46 = .ok (.aload_n 2, 1) := by decide +kernel
theorem dX5_referable_47 : decode cX5_referable 47 = .ok (.getfield 181, 3) := by decide +kernel
theorem dX5_referable_50 : decode cX5_referable 50 = .ok (.ifCond .eq 7, 3) := by decide +kernel
theorem dX5_referable_53 : decode cX5_referable 53 = .ok (.aconst_null, 1) := by decide +kernel
theorem dX5_referable_54 : decode cX5_referable 54 = .ok (.goto 7, 3) := by decide +kernel
theorem dX5_referable_57 : decode cX5_referable 57 = .ok (.aload_n 2, 1) := by decide +kernel
theorem dX5_referable_58 : decode cX5_referable 58 = .ok (.getfield 252, 3) := by decide +kernel
theorem dX5_referable_61 : decode cX5_referable 61 = .ok (.areturn, 1) := by decide +kernel
theorem dX5_isReferredTo_0 : decode cX5_isReferredTo 0 = .ok (.aload_n 0, 1) := by decide +kernel
theorem dX5_isReferredTo_1 : decode cX5_isReferredTo 1 = .ok (.getfield 29, 3) := by decide +kernel
theorem dX5_isReferredTo_4 : decode cX5_isReferredTo 4 = .ok (.iload_n 1, 1) := by decide +kernel
theorem dX5_isReferredTo_5 : decode cX5_isReferredTo 5 = .ok (.invokevirtual 261, 3) := by decide +kernel
theorem dX5_isReferredTo_8 : decode cX5_isReferredTo 8 = .ok (.ifCond .eq 5, 3) := by decide +kernel
theorem dX5_isReferredTo_11 : decode cX5_isReferredTo 11 = .ok (.iconst 1, 1) := by decide +kernel
theorem dX5_isReferredTo_12 : decode cX5_isReferredTo 12 = .ok (.ireturn, 1) := by decide +kernel
theorem dX5_isReferredTo_13 : decode cX5_isReferredTo 13 = .ok (.iconst 0, 1) := by decide +kernel
theorem dX5_isReferredTo_14 : decode cX5_isReferredTo 14 = .ok (.istore_n 2, 1) := by decide +kernel
theorem dX5_isReferredTo_15 : decode cX5_isReferredTo 15 = .ok (.iload_n 2, 1) := by decide +kernel
theorem dX5_isReferredTo_16 : decode cX5_isReferredTo 16 = .ok (.aload_n 0, 1) := by decide +kernel
theorem dX5_isReferredTo_17 : decode cX5_isReferredTo 17 = .ok (.getfield 10, 3) := by decide +kernel
theorem dX5_isReferredTo_20 : decode cX5_isReferredTo 20 = .ok (.invokevirtual 84, 3) := by decide +kernel
theorem dX5_isReferredTo_23 : decode cX5_isReferredTo 23 = .ok (.if_icmp .ge 29, 3) := by decide +kernel
theorem dX5_isReferredTo_26 : decode cX5_isReferredTo 26 = .ok (.aload_n 0, 1) := by decide +kernel
theorem dX5_isReferredTo_27 : decode cX5_isReferredTo 27 = .ok (.getfield 10, 3) := by decide +kernel
theorem dX5_isReferredTo_30 : decode cX5_isReferredTo 30 = .ok (.iload_n 2, 1) := by decide +kernel
theorem dX5_isReferredTo_31 : decode cX5_isReferredTo 31 = .ok (.invokevirtual 242, 3) := by decide +kernel
theorem dX5_isReferredTo_34 : decode cX5_isReferredTo 34 = .ok (.checkcast 16, 3) := by decide +kernel
theorem dX5_isReferredTo_37 : decode cX5_isReferredTo 37 = .ok (.iload_n 1, 1) := by decide +kernel
theorem dX5_isReferredTo_38 : decode cX5_isReferredTo 38 = .ok (.invokevirtual 264, 3) := by decide +kernel
theorem dX5_isReferredTo_41 : decode cX5_isReferredTo 41 = .ok (.ifCond .eq 5, 3) := by decide +kernel
theorem dX5_isReferredTo_44 : decode cX5_isReferredTo 44 = .ok (.iconst 1, 1) := by decide +kernel
theorem dX5_isReferredTo_45 : decode cX5_isReferredTo 45 = .ok (.ireturn, 1) := by decide +kernel
theorem dX5_isReferredTo_46 : decode cX5_isReferredTo 46 = .ok (.iinc 2 1, 3) := by decide +kernel
theorem dX5_isReferredTo_49 : decode cX5_isReferredTo 49 = .ok (.goto (-34), 3) := by decide +kernel
theorem dX5_isReferredTo_52 : decode cX5_isReferredTo 52 = .ok (.iconst 0, 1) := by decide +kernel
theorem dX5_isReferredTo_53 : decode cX5_isReferredTo 53 = .ok (.ireturn, 1) := by decide +kernel
theorem dX5_takeDraft_0 : decode cX5_takeDraft 0 = .ok (.iconst 0, 1) := by decide +kernel
theorem dX5_takeDraft_1 : decode cX5_takeDraft 1 = .ok (.istore_n 1, 1) := by decide +kernel
theorem dX5_takeDraft_2 : decode cX5_takeDraft 2 = .ok (.iload_n 1, 1) := by decide +kernel
theorem dX5_takeDraft_3 : decode cX5_takeDraft 3 = .ok (.aload_n 0, 1) := by decide +kernel
theorem dX5_takeDraft_4 : decode cX5_takeDraft 4 = .ok (.getfield 23, 3) := by decide +kernel
theorem dX5_takeDraft_7 : decode cX5_takeDraft 7 = .ok (.invokevirtual 84, 3) := by decide +kernel
theorem dX5_takeDraft_10 : decode cX5_takeDraft 10 = .ok (.if_icmp .ge 49, 3) := by decide +kernel
theorem dX5_takeDraft_13 : decode cX5_takeDraft 13 = .ok (.aload_n 0, 1) := by decide +kernel
theorem dX5_takeDraft_14 : decode cX5_takeDraft 14 = .ok (.getfield 23, 3) := by decide +kernel
theorem dX5_takeDraft_17 : decode cX5_takeDraft 17 = .ok (.iload_n 1, 1) := by decide +kernel
theorem dX5_takeDraft_18 : decode cX5_takeDraft 18 = .ok (.invokevirtual 242, 3) := by decide +kernel
theorem dX5_takeDraft_21 : decode cX5_takeDraft 21 = .ok (.checkcast 26, 3) := by decide +kernel
theorem dX5_takeDraft_24 : decode cX5_takeDraft 24 = .ok (.aload_n 0, 1) := by decide +kernel
theorem dX5_takeDraft_25 : decode cX5_takeDraft 25 = .ok (.getfield 29, 3) := by decide +kernel
theorem dX5_takeDraft_28 : decode cX5_takeDraft 28 = .ok (.invokevirtual 265, 3) := by decide +kernel
theorem dX5_takeDraft_31 : decode cX5_takeDraft 31 = .ok (.ifCond .eq 22, 3) := by decide +kernel
theorem dX5_takeDraft_34 : decode cX5_takeDraft 34 = .ok (.aload_n 0, 1) := by decide +kernel
theorem dX5_takeDraft_35 : decode cX5_takeDraft 35 = .ok (.getfield 29, 3) := by decide +kernel
theorem dX5_takeDraft_38 : decode cX5_takeDraft 38 = .ok (.invokevirtual 137, 3) := by decide +kernel
theorem dX5_takeDraft_41 : decode cX5_takeDraft 41 = .ok (.aload_n 0, 1) := by decide +kernel
theorem dX5_takeDraft_42 : decode cX5_takeDraft 42 = .ok (.getfield 23, 3) := by decide +kernel
theorem dX5_takeDraft_45 : decode cX5_takeDraft 45 = .ok (.iload_n 1, 1) := by decide +kernel
theorem dX5_takeDraft_46 : decode cX5_takeDraft 46 = .ok (.invokevirtual 242, 3) := by decide +kernel
theorem dX5_takeDraft_49 : decode cX5_takeDraft 49 = .ok (.checkcast 26, 3) := by decide +kernel
theorem dX5_takeDraft_52 : decode cX5_takeDraft 52 = .ok (.areturn, 1) := by decide +kernel
theorem dX5_takeDraft_53 : decode cX5_takeDraft 53 = .ok (.iinc 1 1, 3) := by decide +kernel
theorem dX5_takeDraft_56 : decode cX5_takeDraft 56 = .ok (.goto (-54), 3) := by decide +kernel
theorem dX5_takeDraft_59 : decode cX5_takeDraft 59 = .ok (.aload_n 0, 1) := by decide +kernel
theorem dX5_takeDraft_60 : decode cX5_takeDraft 60 = .ok (.getfield 29, 3) := by decide +kernel
theorem dX5_takeDraft_63 : decode cX5_takeDraft 63 = .ok (.astore_n 1, 1) := by decide +kernel
theorem dX5_takeDraft_64 : decode cX5_takeDraft 64 = .ok (.aload_n 1, 1) := by decide +kernel
theorem dX5_takeDraft_65 : decode cX5_takeDraft 65 = .ok (.aload_n 0, 1) := by decide +kernel
theorem dX5_takeDraft_66 : decode cX5_takeDraft 66 = .ok (.getfield 23, 3) := by decide +kernel
theorem dX5_takeDraft_69 : decode cX5_takeDraft 69 = .ok (.invokevirtual 84, 3) := by decide +kernel
theorem dX5_takeDraft_72 : decode cX5_takeDraft 72 = .ok (.putfield 198, 3) := by decide +kernel
theorem dX5_takeDraft_75 : decode cX5_takeDraft 75 = .ok (.aload_n 0, 1) := by decide +kernel
theorem dX5_takeDraft_76 : decode cX5_takeDraft 76 = .ok (.getfield 23, 3) := by decide +kernel
theorem dX5_takeDraft_79 : decode cX5_takeDraft 79 = .ok (.aload_n 1, 1) := by decide +kernel
theorem dX5_takeDraft_80 : decode cX5_takeDraft 80 = .ok (.invokevirtual 19, 3) := by decide +kernel
theorem dX5_takeDraft_83 : decode cX5_takeDraft 83 = .ok (.pop, 1) := by decide +kernel
theorem dX5_takeDraft_84 : decode cX5_takeDraft 84 = .ok (.aload_n 0, 1) := by decide +kernel
theorem dX5_takeDraft_85 : decode cX5_takeDraft 85 = .ok (.new 26, 3) := by decide +kernel
theorem dX5_takeDraft_88 : decode cX5_takeDraft 88 = .ok (.dup, 1) := by decide +kernel
theorem dX5_takeDraft_89 : decode cX5_takeDraft 89 = .ok (.invokespecial 28, 3) := by decide +kernel
theorem dX5_takeDraft_92 : decode cX5_takeDraft 92 = .ok (.putfield 29, 3) := by decide +kernel
theorem dX5_takeDraft_95 : decode cX5_takeDraft 95 = .ok (.aload_n 1, 1) := by decide +kernel
theorem dX5_takeDraft_96 : decode cX5_takeDraft 96 = .ok (.areturn, 1) := by decide +kernel
theorem dX5_canReadSchema_0 : decode cX5_canReadSchema 0 = .ok (.aload_n 0, 1) := by decide +kernel
theorem dX5_canReadSchema_1 : decode cX5_canReadSchema 1 = .ok (.ifnull 13, 3) := by decide +kernel
theorem dX5_canReadSchema_4 : decode cX5_canReadSchema 4 = .ok (.aload_n 1, 1) := by decide +kernel
theorem dX5_canReadSchema_5 : decode cX5_canReadSchema 5 = .ok (.ifnull 9, 3) := by decide +kernel
theorem dX5_canReadSchema_8 : decode cX5_canReadSchema 8 = .ok (.iload_n 2, 1) := by decide +kernel
theorem dX5_canReadSchema_9 : decode cX5_canReadSchema 9 = .ok (.bipush 40, 2) := by decide +kernel
theorem dX5_canReadSchema_11 : decode cX5_canReadSchema 11 = .ok (.if_icmp .le 5, 3) := by decide +kernel
theorem dX5_canReadSchema_14 : decode cX5_canReadSchema 14 = .ok (.iconst 0, 1) := by decide +kernel
theorem dX5_canReadSchema_15 : decode cX5_canReadSchema 15 = .ok (.ireturn, 1) := by decide +kernel
theorem dX5_canReadSchema_16 : decode cX5_canReadSchema 16 = .ok (.iconst 0, 1) := by decide +kernel
theorem dX5_canReadSchema_17 : decode cX5_canReadSchema 17 = .ok (.istore_n 3, 1) := by decide +kernel
theorem dX5_canReadSchema_18 : decode cX5_canReadSchema 18 = .ok (.iload_n 3, 1) := by decide +kernel
theorem dX5_canReadSchema_19 : decode cX5_canReadSchema 19 = .ok (.aload_n 0, 1) := by decide +kernel
end
section
theorem dX5_canReadSchema_20 : decode cX5_canReadSchema 20 = .ok (.getfield 81, 3) := by decide +kernel
theorem dX5_canReadSchema_23 : decode cX5_canReadSchema 23 = .ok (.invokevirtual 84, 3) := by decide +kernel
theorem dX5_canReadSchema_26 : decode cX5_canReadSchema 26 = .ok (.if_icmp .ge 30, 3) := by decide +kernel
theorem dX5_canReadSchema_29 : decode cX5_canReadSchema 29 = .ok (.aload_n 0, 1) := by decide +kernel
theorem dX5_canReadSchema_30 : decode cX5_canReadSchema 30 = .ok (.getfield 81, 3) := by decide +kernel
theorem dX5_canReadSchema_33 : decode cX5_canReadSchema 33 = .ok (.iload_n 3, 1) := by decide +kernel
theorem dX5_canReadSchema_34 : decode cX5_canReadSchema 34 = .ok (.invokevirtual 242, 3) := by decide +kernel
theorem dX5_canReadSchema_37 : decode cX5_canReadSchema 37 = .ok (.checkcast 96, 3) := by decide +kernel
theorem dX5_canReadSchema_40 : decode cX5_canReadSchema 40 = .ok (.aload_n 1, 1) := by decide +kernel
theorem dX5_canReadSchema_41 : decode cX5_canReadSchema 41 = .ok (.iload_n 2, 1) := by decide +kernel
theorem dX5_canReadSchema_42 : decode cX5_canReadSchema 42 = .ok (.invokestatic 268, 3) := by decide +kernel
theorem dX5_canReadSchema_45 : decode cX5_canReadSchema 45 = .ok (.ifCond .ne 5, 3) := by decide +kernel
theorem dX5_canReadSchema_48 : decode cX5_canReadSchema 48 = .ok (.iconst 0, 1) := by decide +kernel
theorem dX5_canReadSchema_49 : decode cX5_canReadSchema 49 = .ok (.ireturn, 1) := by decide +kernel
theorem dX5_canReadSchema_50 : decode cX5_canReadSchema 50 = .ok (.iinc 3 1, 3) := by decide +kernel
theorem dX5_canReadSchema_53 : decode cX5_canReadSchema 53 = .ok (.goto (-35), 3) := by decide +kernel
theorem dX5_canReadSchema_56 : decode cX5_canReadSchema 56 = .ok (.iconst 1, 1) := by decide +kernel
theorem dX5_canReadSchema_57 : decode cX5_canReadSchema 57 = .ok (.ireturn, 1) := by decide +kernel
theorem dX5_canReadField_0 : decode cX5_canReadField 0 = .ok (.aload_n 1, 1) := by decide +kernel
theorem dX5_canReadField_1 : decode cX5_canReadField 1 = .ok (.aload_n 0, 1) := by decide +kernel
theorem dX5_canReadField_2 : decode cX5_canReadField 2 = .ok (.invokevirtual 272, 3) := by decide +kernel
theorem dX5_canReadField_5 : decode cX5_canReadField 5 = .ok (.astore_n 3, 1) := by decide +kernel
theorem dX5_canReadField_6 : decode cX5_canReadField 6 = .ok (.aload_n 3, 1) := by decide +kernel
theorem dX5_canReadField_7 : decode cX5_canReadField 7 = .ok (.ifnonnull 8, 3) := by decide +kernel
theorem dX5_canReadField_10 : decode cX5_canReadField 10 = .ok (.aload_n 0, 1) := by decide +kernel
theorem dX5_canReadField_11 : decode cX5_canReadField 11 = .ok (.getfield 127, 3) := by decide +kernel
theorem dX5_canReadField_14 : decode cX5_canReadField 14 = .ok (.ireturn, 1) := by decide +kernel
theorem dX5_canReadField_15 : decode cX5_canReadField 15 = .ok (.aload_n 0, 1) := by decide +kernel
theorem dX5_canReadField_16 : decode cX5_canReadField 16 = .ok (.aload_n 3, 1) := by decide +kernel
theorem dX5_canReadField_17 : decode cX5_canReadField 17 = .ok (.getfield 113, 3) := by decide +kernel
theorem dX5_canReadField_20 : decode cX5_canReadField 20 = .ok (.invokevirtual 276, 3) := by decide +kernel
theorem dX5_canReadField_23 : decode cX5_canReadField 23 = .ok (.ifCond .ne 5, 3) := by decide +kernel
theorem dX5_canReadField_26 : decode cX5_canReadField 26 = .ok (.iconst 0, 1) := by decide +kernel
theorem dX5_canReadField_27 : decode cX5_canReadField 27 = .ok (.ireturn, 1) := by decide +kernel
theorem dX5_canReadField_28 : decode cX5_canReadField 28 = .ok (.aload_n 0, 1) := by decide +kernel
theorem dX5_canReadField_29 : decode cX5_canReadField 29 = .ok (.getfield 113, 3) := by decide +kernel
theorem dX5_canReadField_32 : decode cX5_canReadField 32 = .ok (.iconst 3, 1) := by decide +kernel
theorem dX5_canReadField_33 : decode cX5_canReadField 33 = .ok (.if_icmp .ne 27, 3) := by decide +kernel
theorem dX5_canReadField_36 : decode cX5_canReadField 36 = .ok (.aload_n 0, 1) := by decide +kernel
theorem dX5_canReadField_37 : decode cX5_canReadField 37 = .ok (.getfield 119, 3) := by decide +kernel
theorem dX5_canReadField_40 : decode cX5_canReadField 40 = .ok (.aload_n 3, 1) := by decide +kernel
theorem dX5_canReadField_41 : decode cX5_canReadField 41 = .ok (.getfield 119, 3) := by decide +kernel
theorem dX5_canReadField_44 : decode cX5_canReadField 44 = .ok (.if_icmp .ge 10, 3) := by decide +kernel
theorem dX5_canReadField_47 : decode cX5_canReadField 47 = .ok (.aload_n 0, 1) := by decide +kernel
theorem dX5_canReadField_48 : decode cX5_canReadField 48 = .ok (.getfield 127, 3) := by decide +kernel
theorem dX5_canReadField_51 : decode cX5_canReadField 51 = .ok (.ifCond .eq 7, 3) := by decide +kernel
theorem dX5_canReadField_54 : decode cX5_canReadField 54 = .ok (.iconst 1, 1) := by decide +kernel
theorem dX5_canReadField_55 : decode cX5_canReadField 55 = .ok (.goto 4, 3) := by decide +kernel
theorem dX5_canReadField_58 : decode cX5_canReadField 58 = .ok (.iconst 0, 1) := by decide +kernel
theorem dX5_canReadField_59 : decode cX5_canReadField 59 = .ok (.ireturn, 1) := by decide +kernel
theorem dX5_canReadField_60 : decode cX5_canReadField 60 = .ok (.aload_n 0, 1) := by decide +kernel
theorem dX5_canReadField_61 : decode cX5_canReadField 61 = .ok (.getfield 113, 3) := by decide +kernel
theorem dX5_canReadField_64 : decode cX5_canReadField 64 = .ok (.iconst 4, 1) := by decide +kernel
theorem dX5_canReadField_65 : decode cX5_canReadField 65 = .ok (.if_icmp .ne 20, 3) := by decide +kernel
theorem dX5_canReadField_68 : decode cX5_canReadField 68 = .ok (.aload_n 0, 1) := by decide +kernel
theorem dX5_canReadField_69 : decode cX5_canReadField 69 = .ok (.getfield 279, 3) := by decide +kernel
theorem dX5_canReadField_72 : decode cX5_canReadField 72 = .ok (.aload_n 3, 1) := by decide +kernel
theorem dX5_canReadField_73 : decode cX5_canReadField 73 = .ok (.getfield 279, 3) := by decide +kernel
theorem dX5_canReadField_76 : decode cX5_canReadField 76 = .ok (.iload_n 2, 1) := by decide +kernel
theorem dX5_canReadField_77 : decode cX5_canReadField 77 = .ok (.iconst 1, 1) := by decide +kernel
theorem dX5_canReadField_78 : decode cX5_canReadField 78 = .ok (.iadd, 1) := by decide +kernel
theorem dX5_canReadField_79 : decode cX5_canReadField 79 = .ok (.invokestatic 205, 3) := by decide +kernel
theorem dX5_canReadField_82 : decode cX5_canReadField 82 = .ok (.ifCond .eq 7, 3) := by decide +kernel
theorem dX5_canReadField_85 : decode cX5_canReadField 85 = .ok (.iconst 1, 1) := by decide +kernel
theorem dX5_canReadField_86 : decode cX5_canReadField 86 = .ok (.goto 4, 3) := by decide +kernel
theorem dX5_canReadField_89 : decode cX5_canReadField 89 = .ok (.iconst 0, 1) := by decide +kernel
theorem dX5_canReadField_90 : decode cX5_canReadField 90 = .ok (.ireturn, 1) := by decide +kernel
theorem dX5_isRecordOf_0 : decode cX5_isRecordOf 0 = .ok (.aload_n 0, 1) := by decide +kernel
theorem dX5_isRecordOf_1 : decode cX5_isRecordOf 1 = .ok (.getfield 36, 3) := by decide +kernel
theorem dX5_isRecordOf_4 : decode cX5_isRecordOf 4 = .ok (.invokevirtual 77, 3) := by decide +kernel
theorem dX5_isRecordOf_7 : decode cX5_isRecordOf 7 = .ok (.aload_n 1, 1) := by decide +kernel
theorem dX5_isRecordOf_8 : decode cX5_isRecordOf 8 = .ok (.getfield 74, 3) := by decide +kernel
theorem dX5_isRecordOf_11 : decode cX5_isRecordOf 11 = .ok (.invokevirtual 77, 3) := by decide +kernel
theorem dX5_isRecordOf_14 : decode cX5_isRecordOf 14 = .ok (.if_icmp .eq 5, 3) := by decide +kernel
theorem dX5_isRecordOf_17 : decode cX5_isRecordOf 17 = .ok (.iconst 0, 1) := by decide +kernel
theorem dX5_isRecordOf_18 : decode cX5_isRecordOf 18 = .ok (.ireturn, 1) := by decide +kernel
theorem dX5_isRecordOf_19 : decode cX5_isRecordOf 19 = .ok (.iconst 0, 1) := by decide +kernel
theorem dX5_isRecordOf_20 : decode cX5_isRecordOf 20 = .ok (.istore_n 2, 1) := by decide +kernel
theorem dX5_isRecordOf_21 : decode cX5_isRecordOf 21 = .ok (.iload_n 2, 1) := by decide +kernel
theorem dX5_isRecordOf_22 : decode cX5_isRecordOf 22 = .ok (.aload_n 0, 1) := by decide +kernel
theorem dX5_isRecordOf_23 : decode cX5_isRecordOf 23 = .ok (.getfield 36, 3) := by decide +kernel
theorem dX5_isRecordOf_26 : decode cX5_isRecordOf 26 = .ok (.invokevirtual 77, 3) := by decide +kernel
theorem dX5_isRecordOf_29 : decode cX5_isRecordOf 29 = .ok (.if_icmp .ge 33, 3) := by decide +kernel
theorem dX5_isRecordOf_32 : decode cX5_isRecordOf 32 = .ok (.aload_n 0, 1) := by decide +kernel
theorem dX5_isRecordOf_33 : decode cX5_isRecordOf 33 = .ok (.getfield 36, 3) := by decide +kernel
theorem dX5_isRecordOf_36 : decode cX5_isRecordOf 36 = .ok (.iload_n 2, 1) := by decide +kernel
theorem dX5_isRecordOf_37 : decode cX5_isRecordOf 37 = .ok (.invokevirtual 236, 3) := by decide +kernel
theorem dX5_isRecordOf_40 : decode cX5_isRecordOf 40 = .ok (.aload_n 1, 1) := by decide +kernel
theorem dX5_isRecordOf_41 : decode cX5_isRecordOf 41 = .ok (.getfield 74, 3) := by decide +kernel
theorem dX5_isRecordOf_44 : decode cX5_isRecordOf 44 = .ok (.iload_n 2, 1) := by decide +kernel
theorem dX5_isRecordOf_45 : decode cX5_isRecordOf 45 = .ok (.invokevirtual 236, 3) := by decide +kernel
theorem dX5_isRecordOf_48 : decode cX5_isRecordOf 48 = .ok (.invokestatic 121, 3) := by decide +kernel
theorem dX5_isRecordOf_51 : decode cX5_isRecordOf 51 = .ok (.ifCond .ne 5, 3) := by decide +kernel
theorem dX5_isRecordOf_54 : decode cX5_isRecordOf 54 = .ok (.iconst 0, 1) := by decide +kernel
theorem dX5_isRecordOf_55 : decode cX5_isRecordOf 55 = .ok (.ireturn, 1) := by decide +kernel
theorem dX5_isRecordOf_56 : decode cX5_isRecordOf 56 = .ok (.iinc 2 1, 3) := by decide +kernel
theorem dX5_isRecordOf_59 : decode cX5_isRecordOf 59 = .ok (.goto (-38), 3) := by decide +kernel
theorem dX5_isRecordOf_62 : decode cX5_isRecordOf 62 = .ok (.iconst 1, 1) := by decide +kernel
theorem dX5_isRecordOf_63 : decode cX5_isRecordOf 63 = .ok (.ireturn, 1) := by decide +kernel
theorem dX5_readSchema_0 : decode cX5_readSchema 0 = .ok (.aload_n 0, 1) := by decide +kernel
theorem dX5_readSchema_1 : decode cX5_readSchema 1 = .ok (.ifnull 14, 3) := by decide +kernel
theorem dX5_readSchema_4 : decode cX5_readSchema 4 = .ok (.aload_n 1, 1) := by decide +kernel
theorem dX5_readSchema_5 : decode cX5_readSchema 5 = .ok (.ifnull 10, 3) := by decide +kernel
theorem dX5_readSchema_8 : decode cX5_readSchema 8 = .ok (.iload 5, 2) := by decide +kernel
theorem dX5_readSchema_10 : decode cX5_readSchema 10 = .ok (.bipush 40, 2) := by decide +kernel
theorem dX5_readSchema_12 : decode cX5_readSchema 12 = .ok (.if_icmp .le 5, 3) := by decide +kernel
theorem dX5_readSchema_15 : decode cX5_readSchema 15 = .ok (.iconst 0, 1) := by decide +kernel
theorem dX5_readSchema_16 : decode cX5_readSchema 16 = .ok (.ireturn, 1) := by decide +kernel
theorem dX5_readSchema_17 : decode cX5_readSchema 17 = .ok (.iconst 0, 1) := by decide +kernel
theorem dX5_readSchema_18 : decode cX5_readSchema 18 = .ok (.istore 6, 2) := by decide +kernel
theorem dX5_readSchema_20 : decode cX5_readSchema 20 = .ok (.iload 6, 2) := by decide +kernel
theorem dX5_readSchema_22 : decode cX5_readSchema 22 = .ok (.aload_n 0, 1) := by decide +kernel
theorem dX5_readSchema_23 : decode cX5_readSchema 23 = .ok (.getfield 81, 3) := by decide +kernel
theorem dX5_readSchema_26 : decode cX5_readSchema 26 = .ok (.invokevirtual 84, 3) := by decide +kernel
theorem dX5_readSchema_29 : decode cX5_readSchema 29 = .ok (.if_icmp .ge 36, 3) := by decide +kernel
theorem dX5_readSchema_32 : decode cX5_readSchema 32 = .ok (.aload_n 0, 1) := by decide +kernel
theorem dX5_readSchema_33 : decode cX5_readSchema 33 = .ok (.getfield 81, 3) := by decide +kernel
theorem dX5_readSchema_36 : decode cX5_readSchema 36 = .ok (.iload 6, 2) := by decide +kernel
theorem dX5_readSchema_38 : decode cX5_readSchema 38 = .ok (.invokevirtual 242, 3) := by decide +kernel
theorem dX5_readSchema_41 : decode cX5_readSchema 41 = .ok (.checkcast 96, 3) := by decide +kernel
theorem dX5_readSchema_44 : decode cX5_readSchema 44 = .ok (.aload_n 1, 1) := by decide +kernel
theorem dX5_readSchema_45 : decode cX5_readSchema 45 = .ok (.aload_n 2, 1) := by decide +kernel
theorem dX5_readSchema_46 : decode cX5_readSchema 46 = .ok (.iload_n 3, 1) := by decide +kernel
theorem dX5_readSchema_47 : decode cX5_readSchema 47 = .ok (.aload 4, 2) := by decide +kernel
theorem dX5_readSchema_49 : decode cX5_readSchema 49 = .ok (.iload 5, 2) := by decide +kernel
theorem dX5_readSchema_51 : decode cX5_readSchema 51 = .ok (.invokestatic 282, 3) := by decide +kernel
theorem dX5_readSchema_54 : decode cX5_readSchema 54 = .ok (.ifCond .ne 5, 3) := by decide +kernel
theorem dX5_readSchema_57 : decode cX5_readSchema 57 = .ok (.iconst 0, 1) := by decide +kernel
theorem dX5_readSchema_58 : decode cX5_readSchema 58 = .ok (.ireturn, 1) := by decide +kernel
theorem dX5_readSchema_59 : decode cX5_readSchema 59 = .ok (.iinc 6 1, 3) := by decide +kernel
theorem dX5_readSchema_62 : decode cX5_readSchema 62 = .ok (.goto (-42), 3) := by decide +kernel
theorem dX5_readSchema_65 : decode cX5_readSchema 65 = .ok (.iconst 1, 1) := by decide +kernel
theorem dX5_readSchema_66 : decode cX5_readSchema 66 = .ok (.ireturn, 1) := by decide +kernel
theorem dX5_readField_0 : decode cX5_readField 0 = .ok (.aload_n 1, 1) := by decide +kernel
theorem dX5_readField_1 : decode cX5_readField 1 = .ok (.aload_n 0, 1) := by decide +kernel
theorem dX5_readField_2 : decode cX5_readField 2 = .ok (.invokevirtual 272, 3) := by decide +kernel
theorem dX5_readField_5 : decode cX5_readField 5 = .ok (.astore 6, 2) := by decide +kernel
theorem dX5_readField_7 : decode cX5_readField 7 = .ok (.aload 6, 2) := by decide +kernel
theorem dX5_readField_9 : decode cX5_readField 9 = .ok (.ifnonnull 10, 3) := by decide +kernel
theorem dX5_readField_12 : decode cX5_readField 12 = .ok (.aload_n 0, 1) := by decide +kernel
theorem dX5_readField_13 : decode cX5_readField 13 = .ok (.aload 4, 2) := by decide +kernel
theorem dX5_readField_15 : decode cX5_readField 15 = .ok (.invokestatic 286, 3) := by decide +kernel
theorem dX5_readField_18 : decode cX5_readField 18 = .ok (.ireturn, 1) := by decide +kernel
theorem dX5_readField_19 : decode cX5_readField 19 = .ok (.aload_n 0, 1) := by decide +kernel
theorem dX5_readField_20 : decode cX5_readField 20 = .ok (.aload 6, 2) := by decide +kernel
theorem dX5_readField_22 : decode cX5_readField 22 = .ok (.getfield 113, 3) := by decide +kernel
theorem dX5_readField_25 : decode cX5_readField 25 = .ok (.invokevirtual 276, 3) := by decide +kernel
theorem dX5_readField_28 : decode cX5_readField 28 = .ok (.ifCond .ne 5, 3) := by decide +kernel
theorem dX5_readField_31 : decode cX5_readField 31 = .ok (.iconst 0, 1) := by decide +kernel
theorem dX5_readField_32 : decode cX5_readField 32 = .ok (.ireturn, 1) := by decide +kernel
theorem dX5_readField_33 : decode cX5_readField 33 = .ok (.iload_n 3, 1) := by decide +kernel
theorem dX5_readField_34 : decode cX5_readField 34 = .ok (.aload 6, 2) := by decide +kernel
theorem dX5_readField_36 : decode cX5_readField 36 = .ok (.getfield 290, 3) := by decide +kernel
theorem dX5_readField_39 : decode cX5_readField 39 = .ok (.iadd, 1) := by decide +kernel
theorem dX5_readField_40 : decode cX5_readField 40 = .ok (.istore 7, 2) := by decide +kernel
theorem dX5_readField_42 : decode cX5_readField 42 = .ok (.aload_n 0, 1) := by decide +kernel
theorem dX5_readField_43 : decode cX5_readField 43 = .ok (.getfield 113, 3) := by decide +kernel
theorem dX5_readField_46 : decode cX5_readField 46 = .ok (.iconst 4, 1) := by decide +kernel
theorem dX5_readField_47 : decode cX5_readField 47 = .ok (.if_icmp .ne 25, 3) := by decide +kernel
theorem dX5_readField_50 : decode cX5_readField 50 = .ok (.aload_n 0, 1) := by decide +kernel
theorem dX5_readField_51 : decode cX5_readField 51 = .ok (.getfield 279, 3) := by decide +kernel
theorem dX5_readField_54 : decode cX5_readField 54 = .ok (.aload 6, 2) := by decide +kernel
theorem dX5_readField_56 : decode cX5_readField 56 = .ok (.getfield 279, 3) := by decide +kernel
theorem dX5_readField_59 : decode cX5_readField 59 = .ok (.aload_n 2, 1) := by decide +kernel
theorem dX5_readField_60 : decode cX5_readField 60 = .ok (.iload 7, 2) := by decide +kernel
theorem dX5_readField_62 : decode cX5_readField 62 = .ok (.aload 4, 2) := by decide +kernel
theorem dX5_readField_64 : decode cX5_readField 64 = .ok (.iload 5, 2) := by decide +kernel
theorem dX5_readField_66 : decode cX5_readField 66 = .ok (.iconst 1, 1) := by decide +kernel
theorem dX5_readField_67 : decode cX5_readField 67 = .ok (.iadd, 1) := by decide +kernel
theorem dX5_readField_68 : decode cX5_readField 68 = .ok (.invokestatic 220, 3) := by decide +kernel
theorem dX5_readField_71 : decode cX5_readField 71 = .ok (.ireturn, 1) := by decide +kernel
theorem dX5_readField_72 : decode cX5_readField 72 = .ok (.aload_n 2, 1) := by decide +kernel
theorem dX5_readField_73 : decode cX5_readField 73 = .ok (.iload 7, 2) := by decide +kernel
theorem dX5_readField_75 : decode cX5_readField 75 = .ok (.invokevirtual 236, 3) := by decide +kernel
theorem dX5_readField_78 : decode cX5_readField 78 = .ok (.istore 8, 2) := by decide +kernel
theorem dX5_readField_80 : decode cX5_readField 80 = .ok (.aload_n 0, 1) := by decide +kernel
theorem dX5_readField_81 : decode cX5_readField 81 = .ok (.getfield 113, 3) := by decide +kernel
theorem dX5_readField_84 : decode cX5_readField 84 = .ok (.iconst 3, 1) := by decide +kernel
theorem dX5_readField_85 : decode cX5_readField 85 = .ok (.if_icmp .ne 19, 3) := by decide +kernel
theorem dX5_readField_88 : decode cX5_readField 88 = .ok (.iload 8, 2) := by decide +kernel
theorem dX5_readField_90 : decode cX5_readField 90 = .ok (.aload_n 0, 1) := by decide +kernel
theorem dX5_readField_91 : decode cX5_readField 91 = .ok (.getfield 119, 3) := by decide +kernel
theorem dX5_readField_94 : decode cX5_readField 94 = .ok (.if_icmp .lt 10, 3) := by decide +kernel
theorem dX5_readField_97 : decode cX5_readField 97 = .ok (.aload_n 0, 1) := by decide +kernel
theorem dX5_readField_98 : decode cX5_readField 98 = .ok (.aload 4, 2) := by decide +kernel
theorem dX5_readField_100 : decode cX5_readField 100 = .ok (.invokestatic 286, 3) := by decide +kernel
theorem dX5_readField_103 : decode cX5_readField 103 = .ok (.ireturn, 1) := by decide +kernel
theorem dX5_readField_104 : decode cX5_readField 104 = .ok (.aload 4, 2) := by decide +kernel
theorem dX5_readField_106 : decode cX5_readField 106 = .ok (.iload 8, 2) := by decide +kernel
theorem dX5_readField_108 : decode cX5_readField 108 = .ok (.invokevirtual 226, 3) := by decide +kernel
theorem dX5_readField_111 : decode cX5_readField 111 = .ok (.iconst 1, 1) := by decide +kernel
theorem dX5_readField_112 : decode cX5_readField 112 = .ok (.ireturn, 1) := by decide +kernel
theorem dX5_readDefault_0 : decode cX5_readDefault 0 = .ok (.aload_n 0, 1) := by decide +kernel
theorem dX5_readDefault_1 : decode cX5_readDefault 1 = .ok (.getfield 127, 3) := by decide +kernel
theorem dX5_readDefault_4 : decode cX5_readDefault 4 = .ok (.ifCond .eq 11, 3) := by decide +kernel
theorem dX5_readDefault_7 : decode cX5_readDefault 7 = .ok (.aload_n 1, 1) := by decide +kernel
theorem dX5_readDefault_8 : decode cX5_readDefault 8 = .ok (.aload_n 0, 1) := by decide +kernel
theorem dX5_readDefault_9 : decode cX5_readDefault 9 = .ok (.getfield 131, 3) := by decide +kernel
theorem dX5_readDefault_12 : decode cX5_readDefault 12 = .ok (.invokevirtual 226, 3) := by decide +kernel
theorem dX5_readDefault_15 : decode cX5_readDefault 15 = .ok (.aload_n 0, 1) := by decide +kernel
theorem dX5_readDefault_16 : decode cX5_readDefault 16 = .ok (.getfield 127, 3) := by decide +kernel
theorem dX5_readDefault_19 : decode cX5_readDefault 19 = .ok (.ireturn, 1) := by decide +kernel
theorem dX5_countSmallRecords_0 : decode cX5_countSmallRecords 0 = .ok (.iconst 1, 1) := by decide +kernel
theorem dX5_countSmallRecords_1 : decode cX5_countSmallRecords 1 = .ok (.istore_n 1, 1) := by decide +kernel
theorem dX5_countSmallRecords_2 : decode cX5_countSmallRecords 2 = .ok (.iconst 0, 1) := by decide +kernel
theorem dX5_countSmallRecords_3 : decode cX5_countSmallRecords 3 = .ok (.istore_n 2, 1) := by decide +kernel
theorem dX5_countSmallRecords_4 : decode cX5_countSmallRecords 4 = .ok (.iload_n 2, 1) := by decide +kernel
theorem dX5_countSmallRecords_5 : decode cX5_countSmallRecords 5 = .ok (.aload_n 0, 1) := by decide +kernel
theorem dX5_countSmallRecords_6 : decode cX5_countSmallRecords 6 = .ok (.invokevirtual 77, 3) := by decide +kernel
theorem dX5_countSmallRecords_9 : decode cX5_countSmallRecords 9 = .ok (.if_icmp .ge 32, 3) := by decide +kernel
theorem dX5_countSmallRecords_12 : decode cX5_countSmallRecords 12 = .ok (.iload_n 1, 1) := by decide +kernel
theorem dX5_countSmallRecords_13 : decode cX5_countSmallRecords 13 = .ok (.sipush 300, 3) := by decide +kernel
theorem dX5_countSmallRecords_16 : decode cX5_countSmallRecords 16 = .ok (.if_icmp .gt 25, 3) := by decide +kernel
theorem dX5_countSmallRecords_19 : decode cX5_countSmallRecords 19 = .ok (.aload_n 0, 1) := by decide +kernel
theorem dX5_countSmallRecords_20 : decode cX5_countSmallRecords 20 = .ok (.iload_n 2, 1) := by decide +kernel
theorem dX5_countSmallRecords_21 : decode cX5_countSmallRecords 21 = .ok (.invokevirtual 236, 3) := by decide +kernel
theorem dX5_countSmallRecords_24 : decode cX5_countSmallRecords 24 = .ok (.ifCond .eq 11, 3) := by decide +kernel
theorem dX5_countSmallRecords_27 : decode cX5_countSmallRecords 27 = .ok (.iload_n 1, 1) := by decide +kernel
theorem dX5_countSmallRecords_28 : decode cX5_countSmallRecords 28 = .ok (.aload_n 0, 1) := by decide +kernel
theorem dX5_countSmallRecords_29 : decode cX5_countSmallRecords 29 = .ok (.iload_n 2, 1) := by decide +kernel
theorem dX5_countSmallRecords_30 : decode cX5_countSmallRecords 30 = .ok (.invokevirtual 236, 3) := by decide +kernel
theorem dX5_countSmallRecords_33 : decode cX5_countSmallRecords 33 = .ok (.imul, 1) := by decide +kernel
theorem dX5_countSmallRecords_34 : decode cX5_countSmallRecords 34 = .ok (.istore_n 1, 1) := by decide +kernel
theorem dX5_countSmallRecords_35 : decode cX5_countSmallRecords 35 = .ok (.iinc 2 1, 3) := by decide +kernel
theorem dX5_countSmallRecords_38 : decode cX5_countSmallRecords 38 = .ok (.goto (-34), 3) := by decide +kernel
theorem dX5_countSmallRecords_41 : decode cX5_countSmallRecords 41 = .ok (.iload_n 1, 1) := by decide +kernel
theorem dX5_countSmallRecords_42 : decode cX5_countSmallRecords 42 = .ok (.ireturn, 1) := by decide +kernel
theorem dX5_putSmallRecord_0 : decode cX5_putSmallRecord 0 = .ok (.iload_n 2, 1) := by decide +kernel
theorem dX5_putSmallRecord_1 : decode cX5_putSmallRecord 1 = .ok (.istore_n 3, 1) := by decide +kernel
theorem dX5_putSmallRecord_2 : decode cX5_putSmallRecord 2 = .ok (.aload_n 0, 1) := by decide +kernel
theorem dX5_putSmallRecord_3 : decode cX5_putSmallRecord 3 = .ok (.invokevirtual 219, 3) := by decide +kernel
theorem dX5_putSmallRecord_6 : decode cX5_putSmallRecord 6 = .ok (.iconst 0, 1) := by decide +kernel
theorem dX5_putSmallRecord_7 : decode cX5_putSmallRecord 7 = .ok (.istore 4, 2) := by decide +kernel
theorem dX5_putSmallRecord_9 : decode cX5_putSmallRecord 9 = .ok (.iload 4, 2) := by decide +kernel
theorem dX5_putSmallRecord_11 : decode cX5_putSmallRecord 11 = .ok (.aload_n 1, 1) := by decide +kernel
theorem dX5_putSmallRecord_12 : decode cX5_putSmallRecord 12 = .ok (.invokevirtual 77, 3) := by decide +kernel
theorem dX5_putSmallRecord_15 : decode cX5_putSmallRecord 15 = .ok (.if_icmp .ge 43, 3) := by decide +kernel
theorem dX5_putSmallRecord_18 : decode cX5_putSmallRecord 18 = .ok (.aload_n 1, 1) := by decide +kernel
theorem dX5_putSmallRecord_19 : decode cX5_putSmallRecord 19 = .ok (.iload 4, 2) := by decide +kernel
theorem dX5_putSmallRecord_21 : decode cX5_putSmallRecord 21 = .ok (.invokevirtual 236, 3) := by decide +kernel
theorem dX5_putSmallRecord_24 : decode cX5_putSmallRecord 24 = .ok (.istore 5, 2) := by decide +kernel
theorem dX5_putSmallRecord_26 : decode cX5_putSmallRecord 26 = .ok (.iload 5, 2) := by decide +kernel
theorem dX5_putSmallRecord_28 : decode cX5_putSmallRecord 28 = .ok (.ifCond .le 19, 3) := by decide +kernel
theorem dX5_putSmallRecord_31 : decode cX5_putSmallRecord 31 = .ok (.aload_n 0, 1) := by decide +kernel
theorem dX5_putSmallRecord_32 : decode cX5_putSmallRecord 32 = .ok (.iload_n 3, 1) := by decide +kernel
theorem dX5_putSmallRecord_33 : decode cX5_putSmallRecord 33 = .ok (.iload 5, 2) := by decide +kernel
theorem dX5_putSmallRecord_35 : decode cX5_putSmallRecord 35 = .ok (.irem, 1) := by decide +kernel
theorem dX5_putSmallRecord_36 : decode cX5_putSmallRecord 36 = .ok (.invokevirtual 226, 3) := by decide +kernel
theorem dX5_putSmallRecord_39 : decode cX5_putSmallRecord 39 = .ok (.iload_n 3, 1) := by decide +kernel
theorem dX5_putSmallRecord_40 : decode cX5_putSmallRecord 40 = .ok (.iload 5, 2) := by decide +kernel
theorem dX5_putSmallRecord_42 : decode cX5_putSmallRecord 42 = .ok (.idiv, 1) := by decide +kernel
theorem dX5_putSmallRecord_43 : decode cX5_putSmallRecord 43 = .ok (.istore_n 3, 1) := by decide +kernel
theorem dX5_putSmallRecord_44 : decode cX5_putSmallRecord 44 = .ok (.goto 8, 3) := by decide +kernel
theorem dX5_putSmallRecord_47 : decode cX5_putSmallRecord 47 = .ok (.aload_n 0, 1) := by decide +kernel
theorem dX5_putSmallRecord_48 : decode cX5_putSmallRecord 48 = .ok (.iconst 0, 1) := by decide +kernel
theorem dX5_putSmallRecord_49 : decode cX5_putSmallRecord 49 = .ok (.invokevirtual 226, 3) := by decide +kernel
theorem dX5_putSmallRecord_52 : decode cX5_putSmallRecord 52 = .ok (.iinc 4 1, 3) := by decide +kernel
theorem dX5_putSmallRecord_55 : decode cX5_putSmallRecord 55 = .ok (.goto (-46), 3) := by decide +kernel
theorem dX5_putSmallRecord_58 : decode cX5_putSmallRecord 58 = .ok (.return_, 1) := by decide +kernel
theorem dX6_init_0 : decode cX6_init 0 = .ok (.aload_n 0, 1) := by decide +kernel
theorem dX6_init_1 : decode cX6_init 1 = .ok (.invokespecial 1, 3) := by decide +kernel
theorem dX6_init_4 : decode cX6_init 4 = .ok (.aload_n 0, 1) := by decide +kernel
theorem dX6_init_5 : decode cX6_init 5 = .ok (.sipush 185, 3) := by decide +kernel
theorem dX6_init_8 : decode cX6_init 8 = .ok (.newarray .int, 2) := by decide +kernel
theorem dX6_init_10 : decode cX6_init 10 = .ok (.putfield 7, 3) := by decide +kernel
theorem dX6_init_13 : decode cX6_init 13 = .ok (.aload_n 0, 1) := by decide +kernel
theorem dX6_init_14 : decode cX6_init 14 = .ok (.sipush 185, 3) := by decide +kernel
theorem dX6_init_17 : decode cX6_init 17 = .ok (.newarray .int, 2) := by decide +kernel
theorem dX6_init_19 : decode cX6_init 19 = .ok (.putfield 13, 3) := by decide +kernel
theorem dX6_init_22 : decode cX6_init 22 = .ok (.aload_n 0, 1) := by decide +kernel
theorem dX6_init_23 : decode cX6_init 23 = .ok (.sipush 185, 3) := by decide +kernel
theorem dX6_init_26 : decode cX6_init 26 = .ok (.newarray .int, 2) := by decide +kernel
theorem dX6_init_28 : decode cX6_init 28 = .ok (.putfield 16, 3) := by decide +kernel
theorem dX6_init_31 : decode cX6_init 31 = .ok (.aload_n 0, 1) := by decide +kernel
theorem dX6_init_32 : decode cX6_init 32 = .ok (.sipush 185, 3) := by decide +kernel
theorem dX6_init_35 : decode cX6_init 35 = .ok (.newarray .int, 2) := by decide +kernel
theorem dX6_init_37 : decode cX6_init 37 = .ok (.putfield 19, 3) := by decide +kernel
theorem dX6_init_40 : decode cX6_init 40 = .ok (.aload_n 0, 1) := by decide +kernel
theorem dX6_init_41 : decode cX6_init 41 = .ok (.sipush 185, 3) := by decide +kernel
theorem dX6_init_44 : decode cX6_init 44 = .ok (.newarray .boolean, 2) := by decide +kernel
theorem dX6_init_46 : decode cX6_init 46 = .ok (.putfield 22, 3) := by decide +kernel
theorem dX6_init_49 : decode cX6_init 49 = .ok (.aload_n 0, 1) := by decide +kernel
theorem dX6_init_50 : decode cX6_init 50 = .ok (.sipush 185, 3) := by decide +kernel
theorem dX6_init_53 : decode cX6_init 53 = .ok (.newarray .int, 2) := by decide +kernel
theorem dX6_init_55 : decode cX6_init 55 = .ok (.putfield 26, 3) := by decide +kernel
theorem dX6_init_58 : decode cX6_init 58 = .ok (.aload_n 0, 1) := by decide +kernel
theorem dX6_init_59 : decode cX6_init 59 = .ok (.bipush 37, 2) := by decide +kernel
theorem dX6_init_61 : decode cX6_init 61 = .ok (.newarray .int, 2) := by decide +kernel
theorem dX6_init_63 : decode cX6_init 63 = .ok (.putfield 29, 3) := by decide +kernel
theorem dX6_init_66 : decode cX6_init 66 = .ok (.aload_n 0, 1) := by decide +kernel
theorem dX6_init_67 : decode cX6_init 67 = .ok (.bipush 37, 2) := by decide +kernel
theorem dX6_init_69 : decode cX6_init 69 = .ok (.newarray .int, 2) := by decide +kernel
theorem dX6_init_71 : decode cX6_init 71 = .ok (.putfield 32, 3) := by decide +kernel
theorem dX6_init_74 : decode cX6_init 74 = .ok (.aload_n 0, 1) := by decide +kernel
theorem dX6_init_75 : decode cX6_init 75 = .ok (.sipush 1369, 3) := by decide +kernel
theorem dX6_init_78 : decode cX6_init 78 = .ok (.newarray .boolean, 2) := by decide +kernel
theorem dX6_init_80 : decode cX6_init 80 = .ok (.putfield 35, 3) := by decide +kernel
theorem dX6_init_83 : decode cX6_init 83 = .ok (.aload_n 0, 1) := by decide +kernel
theorem dX6_init_84 : decode cX6_init 84 = .ok (.bipush 36, 2) := by decide +kernel
theorem dX6_init_86 : decode cX6_init 86 = .ok (.newarray .int, 2) := by decide +kernel
theorem dX6_init_88 : decode cX6_init 88 = .ok (.putfield 38, 3) := by decide +kernel
theorem dX6_init_91 : decode cX6_init 91 = .ok (.aload_n 0, 1) := by decide +kernel
theorem dX6_init_92 : decode cX6_init 92 = .ok (.bipush 36, 2) := by decide +kernel
theorem dX6_init_94 : decode cX6_init 94 = .ok (.newarray .int, 2) := by decide +kernel
theorem dX6_init_96 : decode cX6_init 96 = .ok (.putfield 41, 3) := by decide +kernel
theorem dX6_init_99 : decode cX6_init 99 = .ok (.aload_n 0, 1) := by decide +kernel
theorem dX6_init_100 : decode cX6_init 100 = .ok (.bipush 6, 2) := by decide +kernel
theorem dX6_init_102 : decode cX6_init 102 = .ok (.newarray .int, 2) := by decide +kernel
theorem dX6_init_104 : decode cX6_init 104 = .ok (.putfield 44, 3) := by decide +kernel
theorem dX6_init_107 : decode cX6_init 107 = .ok (.aload_n 0, 1) := by decide +kernel
theorem dX6_init_108 : decode cX6_init 108 = .ok (.bipush 6, 2) := by decide +kernel
theorem dX6_init_110 : decode cX6_init 110 = .ok (.newarray .int, 2) := by decide +kernel
theorem dX6_init_112 : decode cX6_init 112 = .ok (.putfield 47, 3) := by decide +kernel
theorem dX6_init_115 : decode cX6_init 115 = .ok (.aload_n 0, 1) := by decide +kernel
theorem dX6_init_116 : decode cX6_init 116 = .ok (.bipush 6, 2) := by decide +kernel
theorem dX6_init_118 : decode cX6_init 118 = .ok (.newarray .boolean, 2) := by decide +kernel
theorem dX6_init_120 : decode cX6_init 120 = .ok (.putfield 50, 3) := by decide +kernel
theorem dX6_init_123 : decode cX6_init 123 = .ok (.aload_n 0, 1) := by decide +kernel
theorem dX6_init_124 : decode cX6_init 124 = .ok (.bipush 20, 2) := by decide +kernel
theorem dX6_init_126 : decode cX6_init 126 = .ok (.newarray .int, 2) := by decide +kernel
theorem dX6_init_128 : decode cX6_init 128 = .ok (.putfield 53, 3) := by decide +kernel
theorem dX6_init_131 : decode cX6_init 131 = .ok (.aload_n 0, 1) := by decide +kernel
theorem dX6_init_132 : decode cX6_init 132 = .ok (.bipush 20, 2) := by decide +kernel
theorem dX6_init_134 : decode cX6_init 134 = .ok (.newarray .int, 2) := by decide +kernel
theorem dX6_init_136 : decode cX6_init 136 = .ok (.putfield 56, 3) := by decide +kernel
theorem dX6_init_139 : decode cX6_init 139 = .ok (.aload_n 0, 1) := by decide +kernel
theorem dX6_init_140 : decode cX6_init 140 = .ok (.bipush 40, 2) := by decide +kernel
theorem dX6_init_142 : decode cX6_init 142 = .ok (.newarray .int, 2) := by decide +kernel
theorem dX6_init_144 : decode cX6_init 144 = .ok (.putfield 59, 3) := by decide +kernel
theorem dX6_init_147 : decode cX6_init 147 = .ok (.aload_n 0, 1) := by decide +kernel
theorem dX6_init_148 : decode cX6_init 148 = .ok (.bipush 40, 2) := by decide +kernel
theorem dX6_init_150 : decode cX6_init 150 = .ok (.newarray .int, 2) := by decide +kernel
theorem dX6_init_152 : decode cX6_init 152 = .ok (.putfield 62, 3) := by decide +kernel
theorem dX6_init_155 : decode cX6_init 155 = .ok (.aload_n 0, 1) := by decide +kernel
theorem dX6_init_156 : decode cX6_init 156 = .ok (.bipush 40, 2) := by decide +kernel
theorem dX6_init_158 : decode cX6_init 158 = .ok (.newarray .int, 2) := by decide +kernel
theorem dX6_init_160 : decode cX6_init 160 = .ok (.putfield 65, 3) := by decide +kernel
theorem dX6_init_163 : decode cX6_init 163 = .ok (.aload_n 0, 1) := by decide +kernel
theorem dX6_init_164 : decode cX6_init 164 = .ok (.bipush 40, 2) := by decide +kernel
theorem dX6_init_166 : decode cX6_init 166 = .ok (.newarray .int, 2) := by decide +kernel
theorem dX6_init_168 : decode cX6_init 168 = .ok (.putfield 68, 3) := by decide +kernel
theorem dX6_init_171 : decode cX6_init 171 = .ok (.return_, 1) := by decide +kernel
theorem dX6_thrown_0 : decode cX6_thrown 0 = .ok (.aload_n 0, 1) := by decide +kernel
theorem dX6_thrown_1 : decode cX6_thrown 1 = .ok (.getfield 71, 3) := by decide +kernel
theorem dX6_thrown_4 : decode cX6_thrown 4 = .ok (.ireturn, 1) := by decide +kernel
theorem dX6_holds_0 : decode cX6_holds 0 = .ok (.aload_n 0, 1) := by decide +kernel
theorem dX6_holds_1 : decode cX6_holds 1 = .ok (.iload_n 1, 1) := by decide +kernel
theorem dX6_holds_2 : decode cX6_holds 2 = .ok (.putfield 71, 3) := by decide +kernel
theorem dX6_holds_5 : decode cX6_holds 5 = .ok (.iload_n 1, 1) := by decide +kernel
theorem dX6_holds_6 : decode cX6_holds 6 = .ok (.ifCond .ne 7, 3) := by decide +kernel
theorem dX6_holds_9 : decode cX6_holds 9 = .ok (.iconst 1, 1) := by decide +kernel
theorem dX6_holds_10 : decode cX6_holds 10 = .ok (.goto 4, 3) := by decide +kernel
theorem dX6_holds_13 : decode cX6_holds 13 = .ok (.iconst 0, 1) := by decide +kernel
theorem dX6_holds_14 : decode cX6_holds 14 = .ok (.ireturn, 1) := by decide +kernel
theorem dX6_in_0 : decode cX6_in 0 = .ok (.iload_n 0, 1) := by decide +kernel
theorem dX6_in_1 : decode cX6_in 1 = .ok (.iload_n 1, 1) := by decide +kernel
theorem dX6_in_2 : decode cX6_in 2 = .ok (.if_icmp .lt 12, 3) := by decide +kernel
theorem dX6_in_5 : decode cX6_in 5 = .ok (.iload_n 0, 1) := by decide +kernel
theorem dX6_in_6 : decode cX6_in 6 = .ok (.iload_n 2, 1) := by decide +kernel
theorem dX6_in_7 : decode cX6_in 7 = .ok (.if_icmp .gt 7, 3) := by decide +kernel
theorem dX6_in_10 : decode cX6_in 10 = .ok (.iconst 1, 1) := by decide +kernel
theorem dX6_in_11 : decode cX6_in 11 = .ok (.goto 4, 3) := by decide +kernel
theorem dX6_in_14 : decode cX6_in 14 = .ok (.iconst 0, 1) := by decide +kernel
theorem dX6_in_15 : decode cX6_in 15 = .ok (.ireturn, 1) := by decide +kernel
theorem dX6_isSubject_0 : decode cX6_isSubject 0 = .ok (.iload_n 0, 1) := by decide +kernel
theorem dX6_isSubject_1 : decode cX6_isSubject 1 = .ok (.iconst 0, 1) := by decide +kernel
theorem dX6_isSubject_2 : decode cX6_isSubject 2 = .ok (.iconst 5, 1) := by decide +kernel
theorem dX6_isSubject_3 : decode cX6_isSubject 3 = .ok (.invokestatic 75, 3) := by decide +kernel
theorem dX6_isSubject_6 : decode cX6_isSubject 6 = .ok (.ireturn, 1) := by decide +kernel
theorem dX6_isVersion_0 : decode cX6_isVersion 0 = .ok (.iload_n 2, 1) := by decide +kernel
theorem dX6_isVersion_1 : decode cX6_isVersion 1 = .ok (.iconst 0, 1) := by decide +kernel
theorem dX6_isVersion_2 : decode cX6_isVersion 2 = .ok (.aload_n 0, 1) := by decide +kernel
theorem dX6_isVersion_3 : decode cX6_isVersion 3 = .ok (.getfield 44, 3) := by decide +kernel
theorem dX6_isVersion_6 : decode cX6_isVersion 6 = .ok (.iload_n 1, 1) := by decide +kernel
theorem dX6_isVersion_7 : decode cX6_isVersion 7 = .ok (.iaload, 1) := by decide +kernel
theorem dX6_isVersion_8 : decode cX6_isVersion 8 = .ok (.iconst 1, 1) := by decide +kernel
theorem dX6_isVersion_9 : decode cX6_isVersion 9 = .ok (.isub, 1) := by decide +kernel
theorem dX6_isVersion_10 : decode cX6_isVersion 10 = .ok (.invokestatic 75, 3) := by decide +kernel
theorem dX6_isVersion_13 : decode cX6_isVersion 13 = .ok (.ifCond .eq 22, 3) := by decide +kernel
theorem dX6_isVersion_16 : decode cX6_isVersion 16 = .ok (.aload_n 0, 1) := by decide +kernel
theorem dX6_isVersion_17 : decode cX6_isVersion 17 = .ok (.getfield 41, 3) := by decide +kernel
theorem dX6_isVersion_20 : decode cX6_isVersion 20 = .ok (.bipush 6, 2) := by decide +kernel
theorem dX6_isVersion_22 : decode cX6_isVersion 22 = .ok (.iload_n 1, 1) := by decide +kernel
theorem dX6_isVersion_23 : decode cX6_isVersion 23 = .ok (.imul, 1) := by decide +kernel
theorem dX6_isVersion_24 : decode cX6_isVersion 24 = .ok (.iload_n 2, 1) := by decide +kernel
theorem dX6_isVersion_25 : decode cX6_isVersion 25 = .ok (.iadd, 1) := by decide +kernel
theorem dX6_isVersion_26 : decode cX6_isVersion 26 = .ok (.iaload, 1) := by decide +kernel
theorem dX6_isVersion_27 : decode cX6_isVersion 27 = .ok (.iconst 3, 1) := by decide +kernel
theorem dX6_isVersion_28 : decode cX6_isVersion 28 = .ok (.if_icmp .eq 7, 3) := by decide +kernel
theorem dX6_isVersion_31 : decode cX6_isVersion 31 = .ok (.iconst 1, 1) := by decide +kernel
theorem dX6_isVersion_32 : decode cX6_isVersion 32 = .ok (.goto 4, 3) := by decide +kernel
theorem dX6_isVersion_35 : decode cX6_isVersion 35 = .ok (.iconst 0, 1) := by decide +kernel
theorem dX6_isVersion_36 : decode cX6_isVersion 36 = .ok (.ireturn, 1) := by decide +kernel
theorem dX6_isThereAt_0 : decode cX6_isThereAt 0 = .ok (.aload_n 0, 1) := by decide +kernel
theorem dX6_isThereAt_1 : decode cX6_isThereAt 1 = .ok (.iload_n 1, 1) := by decide +kernel
theorem dX6_isThereAt_2 : decode cX6_isThereAt 2 = .ok (.iload_n 2, 1) := by decide +kernel
theorem dX6_isThereAt_3 : decode cX6_isThereAt 3 = .ok (.invokevirtual 79, 3) := by decide +kernel
theorem dX6_isThereAt_6 : decode cX6_isThereAt 6 = .ok (.ifCond .eq 22, 3) := by decide +kernel
theorem dX6_isThereAt_9 : decode cX6_isThereAt 9 = .ok (.aload_n 0, 1) := by decide +kernel
theorem dX6_isThereAt_10 : decode cX6_isThereAt 10 = .ok (.getfield 41, 3) := by decide +kernel
theorem dX6_isThereAt_13 : decode cX6_isThereAt 13 = .ok (.bipush 6, 2) := by decide +kernel
theorem dX6_isThereAt_15 : decode cX6_isThereAt 15 = .ok (.iload_n 1, 1) := by decide +kernel
theorem dX6_isThereAt_16 : decode cX6_isThereAt 16 = .ok (.imul, 1) := by decide +kernel
theorem dX6_isThereAt_17 : decode cX6_isThereAt 17 = .ok (.iload_n 2, 1) := by decide +kernel
theorem dX6_isThereAt_18 : decode cX6_isThereAt 18 = .ok (.iadd, 1) := by decide +kernel
theorem dX6_isThereAt_19 : decode cX6_isThereAt 19 = .ok (.iaload, 1) := by decide +kernel
theorem dX6_isThereAt_20 : decode cX6_isThereAt 20 = .ok (.iconst 1, 1) := by decide +kernel
theorem dX6_isThereAt_21 : decode cX6_isThereAt 21 = .ok (.if_icmp .ne 7, 3) := by decide +kernel
theorem dX6_isThereAt_24 : decode cX6_isThereAt 24 = .ok (.iconst 1, 1) := by decide +kernel
theorem dX6_isThereAt_25 : decode cX6_isThereAt 25 = .ok (.goto 4, 3) := by decide +kernel
theorem dX6_isThereAt_28 : decode cX6_isThereAt 28 = .ok (.iconst 0, 1) := by decide +kernel
theorem dX6_isThereAt_29 : decode cX6_isThereAt 29 = .ok (.ireturn, 1) := by decide +kernel
theorem dX6_schemaOf_0 : decode cX6_schemaOf 0 = .ok (.aload_n 0, 1) := by decide +kernel
theorem dX6_schemaOf_1 : decode cX6_schemaOf 1 = .ok (.getfield 38, 3) := by decide +kernel
theorem dX6_schemaOf_4 : decode cX6_schemaOf 4 = .ok (.bipush 6, 2) := by decide +kernel
theorem dX6_schemaOf_6 : decode cX6_schemaOf 6 = .ok (.iload_n 1, 1) := by decide +kernel
theorem dX6_schemaOf_7 : decode cX6_schemaOf 7 = .ok (.bipush 10, 2) := by decide +kernel
theorem dX6_schemaOf_9 : decode cX6_schemaOf 9 = .ok (.idiv, 1) := by decide +kernel
theorem dX6_schemaOf_10 : decode cX6_schemaOf 10 = .ok (.imul, 1) := by decide +kernel
theorem dX6_schemaOf_11 : decode cX6_schemaOf 11 = .ok (.iload_n 1, 1) := by decide +kernel
theorem dX6_schemaOf_12 : decode cX6_schemaOf 12 = .ok (.bipush 10, 2) := by decide +kernel
theorem dX6_schemaOf_14 : decode cX6_schemaOf 14 = .ok (.irem, 1) := by decide +kernel
theorem dX6_schemaOf_15 : decode cX6_schemaOf 15 = .ok (.iadd, 1) := by decide +kernel
theorem dX6_schemaOf_16 : decode cX6_schemaOf 16 = .ok (.iaload, 1) := by decide +kernel
theorem dX6_schemaOf_17 : decode cX6_schemaOf 17 = .ok (.ireturn, 1) := by decide +kernel
theorem dX6_isRange_0 : decode cX6_isRange 0 = .ok (.iload_n 2, 1) := by decide +kernel
theorem dX6_isRange_1 : decode cX6_isRange 1 = .ok (.iconst 3, 1) := by decide +kernel
theorem dX6_isRange_2 : decode cX6_isRange 2 = .ok (.if_icmp .ne 12, 3) := by decide +kernel
theorem dX6_isRange_5 : decode cX6_isRange 5 = .ok (.iload_n 3, 1) := by decide +kernel
theorem dX6_isRange_6 : decode cX6_isRange 6 = .ok (.iconst 1, 1) := by decide +kernel
theorem dX6_isRange_7 : decode cX6_isRange 7 = .ok (.iconst 4, 1) := by decide +kernel
theorem dX6_isRange_8 : decode cX6_isRange 8 = .ok (.invokestatic 75, 3) := by decide +kernel
theorem dX6_isRange_11 : decode cX6_isRange 11 = .ok (.ifCond .eq 7, 3) := by decide +kernel
theorem dX6_isRange_14 : decode cX6_isRange 14 = .ok (.iconst 1, 1) := by decide +kernel
theorem dX6_isRange_15 : decode cX6_isRange 15 = .ok (.goto 4, 3) := by decide +kernel
theorem dX6_isRange_18 : decode cX6_isRange 18 = .ok (.iconst 0, 1) := by decide +kernel
theorem dX6_isRange_19 : decode cX6_isRange 19 = .ok (.istore 5, 2) := by decide +kernel
theorem dX6_isRange_21 : decode cX6_isRange 21 = .ok (.iload_n 1, 1) := by decide +kernel
theorem dX6_isRange_22 : decode cX6_isRange 22 = .ok (.iconst 0, 1) := by decide +kernel
theorem dX6_isRange_23 : decode cX6_isRange 23 = .ok (.bipush 9, 2) := by decide +kernel
theorem dX6_isRange_25 : decode cX6_isRange 25 = .ok (.invokestatic 75, 3) := by decide +kernel
theorem dX6_isRange_28 : decode cX6_isRange 28 = .ok (.ifCond .eq 38, 3) := by decide +kernel
theorem dX6_isRange_31 : decode cX6_isRange 31 = .ok (.iload_n 2, 1) := by decide +kernel
theorem dX6_isRange_32 : decode cX6_isRange 32 = .ok (.iconst 0, 1) := by decide +kernel
theorem dX6_isRange_33 : decode cX6_isRange 33 = .ok (.iconst 4, 1) := by decide +kernel
theorem dX6_isRange_34 : decode cX6_isRange 34 = .ok (.invokestatic 75, 3) := by decide +kernel
theorem dX6_isRange_37 : decode cX6_isRange 37 = .ok (.ifCond .eq 29, 3) := by decide +kernel
theorem dX6_isRange_40 : decode cX6_isRange 40 = .ok (.iload 5, 2) := by decide +kernel
theorem dX6_isRange_42 : decode cX6_isRange 42 = .ok (.ifCond .eq 24, 3) := by decide +kernel
theorem dX6_isRange_45 : decode cX6_isRange 45 = .ok (.iload 4, 2) := by decide +kernel
theorem dX6_isRange_47 : decode cX6_isRange 47 = .ok (.iconst (-1), 1) := by decide +kernel
theorem dX6_isRange_48 : decode cX6_isRange 48 = .ok (.bipush 9, 2) := by decide +kernel
theorem dX6_isRange_50 : decode cX6_isRange 50 = .ok (.invokestatic 75, 3) := by decide +kernel
theorem dX6_isRange_53 : decode cX6_isRange 53 = .ok (.ifCond .eq 13, 3) := by decide +kernel
theorem dX6_isRange_56 : decode cX6_isRange 56 = .ok (.iload 4, 2) := by decide +kernel
theorem dX6_isRange_58 : decode cX6_isRange 58 = .ok (.iload_n 1, 1) := by decide +kernel
theorem dX6_isRange_59 : decode cX6_isRange 59 = .ok (.if_icmp .eq 7, 3) := by decide +kernel
theorem dX6_isRange_62 : decode cX6_isRange 62 = .ok (.iconst 1, 1) := by decide +kernel
theorem dX6_isRange_63 : decode cX6_isRange 63 = .ok (.goto 4, 3) := by decide +kernel
theorem dX6_isRange_66 : decode cX6_isRange 66 = .ok (.iconst 0, 1) := by decide +kernel
theorem dX6_isRange_67 : decode cX6_isRange 67 = .ok (.ireturn, 1) := by decide +kernel
theorem dX6_named_0 : decode cX6_named 0 = .ok (.iconst 0, 1) := by decide +kernel
theorem dX6_named_1 : decode cX6_named 1 = .ok (.istore_n 3, 1) := by decide +kernel
theorem dX6_named_2 : decode cX6_named 2 = .ok (.iload_n 3, 1) := by decide +kernel
theorem dX6_named_3 : decode cX6_named 3 = .ok (.aload_n 0, 1) := by decide +kernel
theorem dX6_named_4 : decode cX6_named 4 = .ok (.getfield 29, 3) := by decide +kernel
theorem dX6_named_7 : decode cX6_named 7 = .ok (.iload_n 1, 1) := by decide +kernel
theorem dX6_named_8 : decode cX6_named 8 = .ok (.iaload, 1) := by decide +kernel
theorem dX6_named_9 : decode cX6_named 9 = .ok (.if_icmp .ge 25, 3) := by decide +kernel
theorem dX6_named_12 : decode cX6_named 12 = .ok (.aload_n 0, 1) := by decide +kernel
theorem dX6_named_13 : decode cX6_named 13 = .ok (.getfield 7, 3) := by decide +kernel
theorem dX6_named_16 : decode cX6_named 16 = .ok (.iconst 5, 1) := by decide +kernel
theorem dX6_named_17 : decode cX6_named 17 = .ok (.iload_n 1, 1) := by decide +kernel
theorem dX6_named_18 : decode cX6_named 18 = .ok (.imul, 1) := by decide +kernel
theorem dX6_named_19 : decode cX6_named 19 = .ok (.iload_n 3, 1) := by decide +kernel
theorem dX6_named_20 : decode cX6_named 20 = .ok (.iadd, 1) := by decide +kernel
theorem dX6_named_21 : decode cX6_named 21 = .ok (.iaload, 1) := by decide +kernel
theorem dX6_named_22 : decode cX6_named 22 = .ok (.iload_n 2, 1) := by decide +kernel
theorem dX6_named_23 : decode cX6_named 23 = .ok (.if_icmp .ne 5, 3) := by decide +kernel
theorem dX6_named_26 : decode cX6_named 26 = .ok (.iload_n 3, 1) := by decide +kernel
theorem dX6_named_27 : decode cX6_named 27 = .ok (.ireturn, 1) := by decide +kernel
theorem dX6_named_28 : decode cX6_named 28 = .ok (.iinc 3 1, 3) := by decide +kernel
theorem dX6_named_31 : decode cX6_named 31 = .ok (.goto (-29), 3) := by decide +kernel
theorem dX6_named_34 : decode cX6_named 34 = .ok (.iconst (-1), 1) := by decide +kernel
theorem dX6_named_35 : decode cX6_named 35 = .ok (.ireturn, 1) := by decide +kernel
theorem dX6_errorOfField_0 : decode cX6_errorOfField 0 = .ok (.aload_n 0, 1) := by decide +kernel
theorem dX6_errorOfField_1 : decode cX6_errorOfField 1 = .ok (.iload_n 1, 1) := by decide +kernel
theorem dX6_errorOfField_2 : decode cX6_errorOfField 2 = .ok (.iload_n 2, 1) := by decide +kernel
theorem dX6_errorOfField_3 : decode cX6_errorOfField 3 = .ok (.iload_n 3, 1) := by decide +kernel
theorem dX6_errorOfField_4 : decode cX6_errorOfField 4 = .ok (.iload 4, 2) := by decide +kernel
theorem dX6_errorOfField_6 : decode cX6_errorOfField 6 = .ok (.invokevirtual 83, 3) := by decide +kernel
theorem dX6_errorOfField_9 : decode cX6_errorOfField 9 = .ok (.ifCond .ne 5, 3) := by decide +kernel
theorem dX6_errorOfField_12 : decode cX6_errorOfField 12 = .ok (.iconst 1, 1) := by decide +kernel
theorem dX6_errorOfField_13 : decode cX6_errorOfField 13 = .ok (.ireturn, 1) := by decide +kernel
theorem dX6_errorOfField_14 : decode cX6_errorOfField 14 = .ok (.iload_n 2, 1) := by decide +kernel
theorem dX6_errorOfField_15 : decode cX6_errorOfField 15 = .ok (.iconst 4, 1) := by decide +kernel
theorem dX6_errorOfField_16 : decode cX6_errorOfField 16 = .ok (.if_icmp .ne 7, 3) := by decide +kernel
theorem dX6_errorOfField_19 : decode cX6_errorOfField 19 = .ok (.iconst 1, 1) := by decide +kernel
theorem dX6_errorOfField_20 : decode cX6_errorOfField 20 = .ok (.goto 4, 3) := by decide +kernel
theorem dX6_errorOfField_23 : decode cX6_errorOfField 23 = .ok (.iconst 0, 1) := by decide +kernel
theorem dX6_errorOfField_24 : decode cX6_errorOfField 24 = .ok (.istore 5, 2) := by decide +kernel
theorem dX6_errorOfField_26 : decode cX6_errorOfField 26 = .ok (.iload 5, 2) := by decide +kernel
theorem dX6_errorOfField_28 : decode cX6_errorOfField 28 = .ok (.ifCond .eq 30, 3) := by decide +kernel
theorem dX6_errorOfField_31 : decode cX6_errorOfField 31 = .ok (.iload_n 3, 1) := by decide +kernel
theorem dX6_errorOfField_32 : decode cX6_errorOfField 32 = .ok (.iconst 0, 1) := by decide +kernel
theorem dX6_errorOfField_33 : decode cX6_errorOfField 33 = .ok (.bipush 59, 2) := by decide +kernel
theorem dX6_errorOfField_35 : decode cX6_errorOfField 35 = .ok (.invokestatic 75, 3) := by decide +kernel
theorem dX6_errorOfField_38 : decode cX6_errorOfField 38 = .ok (.ifCond .eq 18, 3) := by decide +kernel
theorem dX6_errorOfField_41 : decode cX6_errorOfField 41 = .ok (.aload_n 0, 1) := by decide +kernel
theorem dX6_errorOfField_42 : decode cX6_errorOfField 42 = .ok (.iload_n 3, 1) := by decide +kernel
theorem dX6_errorOfField_43 : decode cX6_errorOfField 43 = .ok (.bipush 10, 2) := by decide +kernel
theorem dX6_errorOfField_45 : decode cX6_errorOfField 45 = .ok (.idiv, 1) := by decide +kernel
theorem dX6_errorOfField_46 : decode cX6_errorOfField 46 = .ok (.iload_n 3, 1) := by decide +kernel
theorem dX6_errorOfField_47 : decode cX6_errorOfField 47 = .ok (.bipush 10, 2) := by decide +kernel
theorem dX6_errorOfField_49 : decode cX6_errorOfField 49 = .ok (.irem, 1) := by decide +kernel
theorem dX6_errorOfField_50 : decode cX6_errorOfField 50 = .ok (.invokevirtual 87, 3) := by decide +kernel
theorem dX6_errorOfField_53 : decode cX6_errorOfField 53 = .ok (.ifCond .ne 5, 3) := by decide +kernel
theorem dX6_errorOfField_56 : decode cX6_errorOfField 56 = .ok (.iconst 2, 1) := by decide +kernel
theorem dX6_errorOfField_57 : decode cX6_errorOfField 57 = .ok (.ireturn, 1) := by decide +kernel
theorem dX6_errorOfField_58 : decode cX6_errorOfField 58 = .ok (.iload 5, 2) := by decide +kernel
theorem dX6_errorOfField_60 : decode cX6_errorOfField 60 = .ok (.ifCond .eq 16, 3) := by decide +kernel
theorem dX6_errorOfField_63 : decode cX6_errorOfField 63 = .ok (.aload_n 0, 1) := by decide +kernel
theorem dX6_errorOfField_64 : decode cX6_errorOfField 64 = .ok (.getfield 32, 3) := by decide +kernel
theorem dX6_errorOfField_67 : decode cX6_errorOfField 67 = .ok (.aload_n 0, 1) := by decide +kernel
theorem dX6_errorOfField_68 : decode cX6_errorOfField 68 = .ok (.iload_n 3, 1) := by decide +kernel
theorem dX6_errorOfField_69 : decode cX6_errorOfField 69 = .ok (.invokevirtual 90, 3) := by decide +kernel
theorem dX6_errorOfField_72 : decode cX6_errorOfField 72 = .ok (.iaload, 1) := by decide +kernel
theorem dX6_errorOfField_73 : decode cX6_errorOfField 73 = .ok (.goto 4, 3) := by decide +kernel
theorem dX6_errorOfField_76 : decode cX6_errorOfField 76 = .ok (.iconst 1, 1) := by decide +kernel
theorem dX6_errorOfField_77 : decode cX6_errorOfField 77 = .ok (.istore 6, 2) := by decide +kernel
theorem dX6_errorOfField_79 : decode cX6_errorOfField 79 = .ok (.aload_n 0, 1) := by decide +kernel
theorem dX6_errorOfField_80 : decode cX6_errorOfField 80 = .ok (.getfield 29, 3) := by decide +kernel
theorem dX6_errorOfField_83 : decode cX6_errorOfField 83 = .ok (.bipush 36, 2) := by decide +kernel
theorem dX6_errorOfField_85 : decode cX6_errorOfField 85 = .ok (.iaload, 1) := by decide +kernel
theorem dX6_errorOfField_86 : decode cX6_errorOfField 86 = .ok (.iconst 5, 1) := by decide +kernel
theorem dX6_errorOfField_87 : decode cX6_errorOfField 87 = .ok (.if_icmp .eq 29, 3) := by decide +kernel
theorem dX6_errorOfField_90 : decode cX6_errorOfField 90 = .ok (.aload_n 0, 1) := by decide +kernel
theorem dX6_errorOfField_91 : decode cX6_errorOfField 91 = .ok (.bipush 36, 2) := by decide +kernel
theorem dX6_errorOfField_93 : decode cX6_errorOfField 93 = .ok (.iload_n 1, 1) := by decide +kernel
theorem dX6_errorOfField_94 : decode cX6_errorOfField 94 = .ok (.invokevirtual 94, 3) := by decide +kernel
theorem dX6_errorOfField_97 : decode cX6_errorOfField 97 = .ok (.iconst (-1), 1) := by decide +kernel
theorem dX6_errorOfField_98 : decode cX6_errorOfField 98 = .ok (.if_icmp .ne 18, 3) := by decide +kernel
theorem dX6_errorOfField_101 : decode cX6_errorOfField 101 = .ok (.aload_n 0, 1) := by decide +kernel
theorem dX6_errorOfField_102 : decode cX6_errorOfField 102 = .ok (.getfield 32, 3) := by decide +kernel
theorem dX6_errorOfField_105 : decode cX6_errorOfField 105 = .ok (.bipush 36, 2) := by decide +kernel
theorem dX6_errorOfField_107 : decode cX6_errorOfField 107 = .ok (.iaload, 1) := by decide +kernel
theorem dX6_errorOfField_108 : decode cX6_errorOfField 108 = .ok (.iload 6, 2) := by decide +kernel
theorem dX6_errorOfField_110 : decode cX6_errorOfField 110 = .ok (.iadd, 1) := by decide +kernel
theorem dX6_errorOfField_111 : decode cX6_errorOfField 111 = .ok (.bipush 20, 2) := by decide +kernel
theorem dX6_errorOfField_113 : decode cX6_errorOfField 113 = .ok (.if_icmp .le 7, 3) := by decide +kernel
theorem dX6_errorOfField_116 : decode cX6_errorOfField 116 = .ok (.iconst 3, 1) := by decide +kernel
theorem dX6_errorOfField_117 : decode cX6_errorOfField 117 = .ok (.goto 4, 3) := by decide +kernel
theorem dX6_errorOfField_120 : decode cX6_errorOfField 120 = .ok (.iconst 0, 1) := by decide +kernel
theorem dX6_errorOfField_121 : decode cX6_errorOfField 121 = .ok (.ireturn, 1) := by decide +kernel
theorem dX6_field_0 : decode cX6_field 0 = .ok (.aload_n 0, 1) := by decide +kernel
theorem dX6_field_1 : decode cX6_field 1 = .ok (.aload_n 0, 1) := by decide +kernel
theorem dX6_field_2 : decode cX6_field 2 = .ok (.iload_n 1, 1) := by decide +kernel
theorem dX6_field_3 : decode cX6_field 3 = .ok (.iload_n 2, 1) := by decide +kernel
theorem dX6_field_4 : decode cX6_field 4 = .ok (.iload_n 3, 1) := by decide +kernel
theorem dX6_field_5 : decode cX6_field 5 = .ok (.iload 4, 2) := by decide +kernel
theorem dX6_field_7 : decode cX6_field 7 = .ok (.invokevirtual 98, 3) := by decide +kernel
theorem dX6_field_10 : decode cX6_field 10 = .ok (.invokevirtual 102, 3) := by decide +kernel
theorem dX6_field_13 : decode cX6_field 13 = .ok (.ifCond .ne 5, 3) := by decide +kernel
theorem dX6_field_16 : decode cX6_field 16 = .ok (.iconst 0, 1) := by decide +kernel
theorem dX6_field_17 : decode cX6_field 17 = .ok (.ireturn, 1) := by decide +kernel
theorem dX6_field_18 : decode cX6_field 18 = .ok (.sipush 180, 3) := by decide +kernel
theorem dX6_field_21 : decode cX6_field 21 = .ok (.aload_n 0, 1) := by decide +kernel
theorem dX6_field_22 : decode cX6_field 22 = .ok (.getfield 29, 3) := by decide +kernel
theorem dX6_field_25 : decode cX6_field 25 = .ok (.bipush 36, 2) := by decide +kernel
theorem dX6_field_27 : decode cX6_field 27 = .ok (.iaload, 1) := by decide +kernel
theorem dX6_field_28 : decode cX6_field 28 = .ok (.iadd, 1) := by decide +kernel
theorem dX6_field_29 : decode cX6_field 29 = .ok (.istore 5, 2) := by decide +kernel
theorem dX6_field_31 : decode cX6_field 31 = .ok (.aload_n 0, 1) := by decide +kernel
theorem dX6_field_32 : decode cX6_field 32 = .ok (.getfield 7, 3) := by decide +kernel
theorem dX6_field_35 : decode cX6_field 35 = .ok (.iload 5, 2) := by decide +kernel
theorem dX6_field_37 : decode cX6_field 37 = .ok (.iload_n 1, 1) := by decide +kernel
theorem dX6_field_38 : decode cX6_field 38 = .ok (.iastore, 1) := by decide +kernel
theorem dX6_field_39 : decode cX6_field 39 = .ok (.aload_n 0, 1) := by decide +kernel
theorem dX6_field_40 : decode cX6_field 40 = .ok (.getfield 13, 3) := by decide +kernel
theorem dX6_field_43 : decode cX6_field 43 = .ok (.iload 5, 2) := by decide +kernel
theorem dX6_field_45 : decode cX6_field 45 = .ok (.iload_n 2, 1) := by decide +kernel
theorem dX6_field_46 : decode cX6_field 46 = .ok (.iastore, 1) := by decide +kernel
theorem dX6_field_47 : decode cX6_field 47 = .ok (.aload_n 0, 1) := by decide +kernel
theorem dX6_field_48 : decode cX6_field 48 = .ok (.getfield 16, 3) := by decide +kernel
theorem dX6_field_51 : decode cX6_field 51 = .ok (.iload 5, 2) := by decide +kernel
theorem dX6_field_53 : decode cX6_field 53 = .ok (.iload_n 2, 1) := by decide +kernel
theorem dX6_field_54 : decode cX6_field 54 = .ok (.iconst 2, 1) := by decide +kernel
theorem dX6_field_55 : decode cX6_field 55 = .ok (.if_icmp .le 7, 3) := by decide +kernel
theorem dX6_field_58 : decode cX6_field 58 = .ok (.iload_n 3, 1) := by decide +kernel
theorem dX6_field_59 : decode cX6_field 59 = .ok (.goto 4, 3) := by decide +kernel
theorem dX6_field_62 : decode cX6_field 62 = .ok (.iconst 0, 1) := by decide +kernel
theorem dX6_field_63 : decode cX6_field 63 = .ok (.iastore, 1) := by decide +kernel
theorem dX6_field_64 : decode cX6_field 64 = .ok (.aload_n 0, 1) := by decide +kernel
theorem dX6_field_65 : decode cX6_field 65 = .ok (.getfield 19, 3) := by decide +kernel
theorem dX6_field_68 : decode cX6_field 68 = .ok (.iload 5, 2) := by decide +kernel
theorem dX6_field_70 : decode cX6_field 70 = .ok (.iload 4, 2) := by decide +kernel
theorem dX6_field_72 : decode cX6_field 72 = .ok (.iastore, 1) := by decide +kernel
theorem dX6_field_73 : decode cX6_field 73 = .ok (.aload_n 0, 1) := by decide +kernel
theorem dX6_field_74 : decode cX6_field 74 = .ok (.getfield 22, 3) := by decide +kernel
theorem dX6_field_77 : decode cX6_field 77 = .ok (.iload 5, 2) := by decide +kernel
theorem dX6_field_79 : decode cX6_field 79 = .ok (.iconst 0, 1) := by decide +kernel
theorem dX6_field_80 : decode cX6_field 80 = .ok (.bastore, 1) := by decide +kernel
theorem dX6_field_81 : decode cX6_field 81 = .ok (.aload_n 0, 1) := by decide +kernel
theorem dX6_field_82 : decode cX6_field 82 = .ok (.getfield 26, 3) := by decide +kernel
theorem dX6_field_85 : decode cX6_field 85 = .ok (.iload 5, 2) := by decide +kernel
theorem dX6_field_87 : decode cX6_field 87 = .ok (.iconst 0, 1) := by decide +kernel
theorem dX6_field_88 : decode cX6_field 88 = .ok (.iastore, 1) := by decide +kernel
theorem dX6_field_89 : decode cX6_field 89 = .ok (.aload_n 0, 1) := by decide +kernel
theorem dX6_field_90 : decode cX6_field 90 = .ok (.getfield 32, 3) := by decide +kernel
theorem dX6_field_93 : decode cX6_field 93 = .ok (.bipush 36, 2) := by decide +kernel
theorem dX6_field_95 : decode cX6_field 95 = .ok (.dup2, 1) := by decide +kernel
theorem dX6_field_96 : decode cX6_field 96 = .ok (.iaload, 1) := by decide +kernel
theorem dX6_field_97 : decode cX6_field 97 = .ok (.iload_n 2, 1) := by decide +kernel
theorem dX6_field_98 : decode cX6_field 98 = .ok (.iconst 4, 1) := by decide +kernel
theorem dX6_field_99 : decode cX6_field 99 = .ok (.if_icmp .ne 16, 3) := by decide +kernel
theorem dX6_field_102 : decode cX6_field 102 = .ok (.aload_n 0, 1) := by decide +kernel
theorem dX6_field_103 : decode cX6_field 103 = .ok (.getfield 32, 3) := by decide +kernel
theorem dX6_field_106 : decode cX6_field 106 = .ok (.aload_n 0, 1) := by decide +kernel
theorem dX6_field_107 : decode cX6_field 107 = .ok (.iload_n 3, 1) := by decide +kernel
theorem dX6_field_108 : decode cX6_field 108 = .ok (.invokevirtual 90, 3) := by decide +kernel
theorem dX6_field_111 : decode cX6_field 111 = .ok (.iaload, 1) := by decide +kernel
theorem dX6_field_112 : decode cX6_field 112 = .ok (.goto 4, 3) := by decide +kernel
theorem dX6_field_115 : decode cX6_field 115 = .ok (.iconst 1, 1) := by decide +kernel
theorem dX6_field_116 : decode cX6_field 116 = .ok (.iadd, 1) := by decide +kernel
theorem dX6_field_117 : decode cX6_field 117 = .ok (.iastore, 1) := by decide +kernel
theorem dX6_field_118 : decode cX6_field 118 = .ok (.aload_n 0, 1) := by decide +kernel
theorem dX6_field_119 : decode cX6_field 119 = .ok (.getfield 29, 3) := by decide +kernel
theorem dX6_field_122 : decode cX6_field 122 = .ok (.bipush 36, 2) := by decide +kernel
theorem dX6_field_124 : decode cX6_field 124 = .ok (.dup2, 1) := by decide +kernel
theorem dX6_field_125 : decode cX6_field 125 = .ok (.iaload, 1) := by decide +kernel
theorem dX6_field_126 : decode cX6_field 126 = .ok (.iconst 1, 1) := by decide +kernel
theorem dX6_field_127 : decode cX6_field 127 = .ok (.iadd, 1) := by decide +kernel
theorem dX6_field_128 : decode cX6_field 128 = .ok (.iastore, 1) := by decide +kernel
theorem dX6_field_129 : decode cX6_field 129 = .ok (.aload_n 0, 1) := by decide +kernel
theorem dX6_field_130 : decode cX6_field 130 = .ok (.getfield 29, 3) := by decide +kernel
theorem dX6_field_133 : decode cX6_field 133 = .ok (.bipush 36, 2) := by decide +kernel
theorem dX6_field_135 : decode cX6_field 135 = .ok (.iaload, 1) := by decide +kernel
theorem dX6_field_136 : decode cX6_field 136 = .ok (.ireturn, 1) := by decide +kernel
theorem dX6_isValue_0 : decode cX6_isValue 0 = .ok (.aload_n 0, 1) := by decide +kernel
theorem dX6_isValue_1 : decode cX6_isValue 1 = .ok (.getfield 13, 3) := by decide +kernel
theorem dX6_isValue_4 : decode cX6_isValue 4 = .ok (.iload_n 1, 1) := by decide +kernel
theorem dX6_isValue_5 : decode cX6_isValue 5 = .ok (.iaload, 1) := by decide +kernel
theorem dX6_isValue_6 : decode cX6_isValue 6 = .ok (.istore_n 3, 1) := by decide +kernel
theorem dX6_isValue_7 : decode cX6_isValue 7 = .ok (.iload_n 3, 1) := by decide +kernel
theorem dX6_isValue_8 : decode cX6_isValue 8 = .ok (.iconst 2, 1) := by decide +kernel
theorem dX6_isValue_9 : decode cX6_isValue 9 = .ok (.if_icmp .lt 28, 3) := by decide +kernel
theorem dX6_isValue_12 : decode cX6_isValue 12 = .ok (.iload_n 2, 1) := by decide +kernel
theorem dX6_isValue_13 : decode cX6_isValue 13 = .ok (.iconst 0, 1) := by decide +kernel
theorem dX6_isValue_14 : decode cX6_isValue 14 = .ok (.iload_n 3, 1) := by decide +kernel
theorem dX6_isValue_15 : decode cX6_isValue 15 = .ok (.iconst 2, 1) := by decide +kernel
theorem dX6_isValue_16 : decode cX6_isValue 16 = .ok (.if_icmp .ne 7, 3) := by decide +kernel
theorem dX6_isValue_19 : decode cX6_isValue 19 = .ok (.iconst 1, 1) := by decide +kernel
theorem dX6_isValue_20 : decode cX6_isValue 20 = .ok (.goto 11, 3) := by decide +kernel
theorem dX6_isValue_23 : decode cX6_isValue 23 = .ok (.aload_n 0, 1) := by decide +kernel
theorem dX6_isValue_24 : decode cX6_isValue 24 = .ok (.getfield 16, 3) := by decide +kernel
theorem dX6_isValue_27 : decode cX6_isValue 27 = .ok (.iload_n 1, 1) := by decide +kernel
theorem dX6_isValue_28 : decode cX6_isValue 28 = .ok (.iaload, 1) := by decide +kernel
theorem dX6_isValue_29 : decode cX6_isValue 29 = .ok (.iconst 1, 1) := by decide +kernel
theorem dX6_isValue_30 : decode cX6_isValue 30 = .ok (.isub, 1) := by decide +kernel
theorem dX6_isValue_31 : decode cX6_isValue 31 = .ok (.invokestatic 75, 3) := by decide +kernel
theorem dX6_isValue_34 : decode cX6_isValue 34 = .ok (.ifCond .eq 7, 3) := by decide +kernel
theorem dX6_isValue_37 : decode cX6_isValue 37 = .ok (.iconst 1, 1) := by decide +kernel
theorem dX6_isValue_38 : decode cX6_isValue 38 = .ok (.goto 4, 3) := by decide +kernel
theorem dX6_isValue_41 : decode cX6_isValue 41 = .ok (.iconst 0, 1) := by decide +kernel
theorem dX6_isValue_42 : decode cX6_isValue 42 = .ok (.ireturn, 1) := by decide +kernel
theorem dX6_byDefault_0 : decode cX6_byDefault 0 = .ok (.sipush 180, 3) := by decide +kernel
theorem dX6_byDefault_3 : decode cX6_byDefault 3 = .ok (.aload_n 0, 1) := by decide +kernel
theorem dX6_byDefault_4 : decode cX6_byDefault 4 = .ok (.getfield 29, 3) := by decide +kernel
theorem dX6_byDefault_7 : decode cX6_byDefault 7 = .ok (.bipush 36, 2) := by decide +kernel
theorem dX6_byDefault_9 : decode cX6_byDefault 9 = .ok (.iaload, 1) := by decide +kernel
theorem dX6_byDefault_10 : decode cX6_byDefault 10 = .ok (.iadd, 1) := by decide +kernel
theorem dX6_byDefault_11 : decode cX6_byDefault 11 = .ok (.iconst 1, 1) := by decide +kernel
theorem dX6_byDefault_12 : decode cX6_byDefault 12 = .ok (.isub, 1) := by decide +kernel
theorem dX6_byDefault_13 : decode cX6_byDefault 13 = .ok (.istore_n 2, 1) := by decide +kernel
theorem dX6_byDefault_14 : decode cX6_byDefault 14 = .ok (.aload_n 0, 1) := by decide +kernel
theorem dX6_byDefault_15 : decode cX6_byDefault 15 = .ok (.aload_n 0, 1) := by decide +kernel
theorem dX6_byDefault_16 : decode cX6_byDefault 16 = .ok (.getfield 29, 3) := by decide +kernel
theorem dX6_byDefault_19 : decode cX6_byDefault 19 = .ok (.bipush 36, 2) := by decide +kernel
theorem dX6_byDefault_21 : decode cX6_byDefault 21 = .ok (.iaload, 1) := by decide +kernel
theorem dX6_byDefault_22 : decode cX6_byDefault 22 = .ok (.ifCond .eq 13, 3) := by decide +kernel
theorem dX6_byDefault_25 : decode cX6_byDefault 25 = .ok (.aload_n 0, 1) := by decide +kernel
theorem dX6_byDefault_26 : decode cX6_byDefault 26 = .ok (.getfield 13, 3) := by decide +kernel
theorem dX6_byDefault_29 : decode cX6_byDefault 29 = .ok (.iload_n 2, 1) := by decide +kernel
theorem dX6_byDefault_30 : decode cX6_byDefault 30 = .ok (.iaload, 1) := by decide +kernel
theorem dX6_byDefault_31 : decode cX6_byDefault 31 = .ok (.iconst 4, 1) := by decide +kernel
theorem dX6_byDefault_32 : decode cX6_byDefault 32 = .ok (.if_icmp .ne 7, 3) := by decide +kernel
theorem dX6_byDefault_35 : decode cX6_byDefault 35 = .ok (.iconst 1, 1) := by decide +kernel
theorem dX6_byDefault_36 : decode cX6_byDefault 36 = .ok (.goto 17, 3) := by decide +kernel
theorem dX6_byDefault_39 : decode cX6_byDefault 39 = .ok (.aload_n 0, 1) := by decide +kernel
theorem dX6_byDefault_40 : decode cX6_byDefault 40 = .ok (.iload_n 2, 1) := by decide +kernel
theorem dX6_byDefault_41 : decode cX6_byDefault 41 = .ok (.iload_n 1, 1) := by decide +kernel
theorem dX6_byDefault_42 : decode cX6_byDefault 42 = .ok (.invokevirtual 106, 3) := by decide +kernel
theorem dX6_byDefault_45 : decode cX6_byDefault 45 = .ok (.ifCond .eq 7, 3) := by decide +kernel
theorem dX6_byDefault_48 : decode cX6_byDefault 48 = .ok (.iconst 0, 1) := by decide +kernel
theorem dX6_byDefault_49 : decode cX6_byDefault 49 = .ok (.goto 4, 3) := by decide +kernel
theorem dX6_byDefault_52 : decode cX6_byDefault 52 = .ok (.iconst 2, 1) := by decide +kernel
theorem dX6_byDefault_53 : decode cX6_byDefault 53 = .ok (.invokevirtual 102, 3) := by decide +kernel
theorem dX6_byDefault_56 : decode cX6_byDefault 56 = .ok (.ifCond .ne 5, 3) := by decide +kernel
theorem dX6_byDefault_59 : decode cX6_byDefault 59 = .ok (.iconst 0, 1) := by decide +kernel
theorem dX6_byDefault_60 : decode cX6_byDefault 60 = .ok (.ireturn, 1) := by decide +kernel
theorem dX6_byDefault_61 : decode cX6_byDefault 61 = .ok (.aload_n 0, 1) := by decide +kernel
theorem dX6_byDefault_62 : decode cX6_byDefault 62 = .ok (.getfield 22, 3) := by decide +kernel
theorem dX6_byDefault_65 : decode cX6_byDefault 65 = .ok (.iload_n 2, 1) := by decide +kernel
theorem dX6_byDefault_66 : decode cX6_byDefault 66 = .ok (.iconst 1, 1) := by decide +kernel
theorem dX6_byDefault_67 : decode cX6_byDefault 67 = .ok (.bastore, 1) := by decide +kernel
theorem dX6_byDefault_68 : decode cX6_byDefault 68 = .ok (.aload_n 0, 1) := by decide +kernel
theorem dX6_byDefault_69 : decode cX6_byDefault 69 = .ok (.getfield 26, 3) := by decide +kernel
theorem dX6_byDefault_72 : decode cX6_byDefault 72 = .ok (.iload_n 2, 1) := by decide +kernel
theorem dX6_byDefault_73 : decode cX6_byDefault 73 = .ok (.iload_n 1, 1) := by decide +kernel
theorem dX6_byDefault_74 : decode cX6_byDefault 74 = .ok (.iastore, 1) := by decide +kernel
theorem dX6_byDefault_75 : decode cX6_byDefault 75 = .ok (.aload_n 0, 1) := by decide +kernel
theorem dX6_byDefault_76 : decode cX6_byDefault 76 = .ok (.getfield 7, 3) := by decide +kernel
theorem dX6_byDefault_79 : decode cX6_byDefault 79 = .ok (.iload_n 2, 1) := by decide +kernel
theorem dX6_byDefault_80 : decode cX6_byDefault 80 = .ok (.iaload, 1) := by decide +kernel
theorem dX6_byDefault_81 : decode cX6_byDefault 81 = .ok (.ireturn, 1) := by decide +kernel
theorem dX6_empties_0 : decode cX6_empties 0 = .ok (.aload_n 0, 1) := by decide +kernel
theorem dX6_empties_1 : decode cX6_empties 1 = .ok (.getfield 29, 3) := by decide +kernel
theorem dX6_empties_4 : decode cX6_empties 4 = .ok (.bipush 36, 2) := by decide +kernel
theorem dX6_empties_6 : decode cX6_empties 6 = .ok (.iconst 0, 1) := by decide +kernel
theorem dX6_empties_7 : decode cX6_empties 7 = .ok (.iastore, 1) := by decide +kernel
theorem dX6_empties_8 : decode cX6_empties 8 = .ok (.aload_n 0, 1) := by decide +kernel
theorem dX6_empties_9 : decode cX6_empties 9 = .ok (.getfield 32, 3) := by decide +kernel
theorem dX6_empties_12 : decode cX6_empties 12 = .ok (.bipush 36, 2) := by decide +kernel
theorem dX6_empties_14 : decode cX6_empties 14 = .ok (.iconst 0, 1) := by decide +kernel
theorem dX6_empties_15 : decode cX6_empties 15 = .ok (.iastore, 1) := by decide +kernel
theorem dX6_empties_16 : decode cX6_empties 16 = .ok (.return_, 1) := by decide +kernel
theorem dX6_discard_0 : decode cX6_discard 0 = .ok (.aload_n 0, 1) := by decide +kernel
theorem dX6_discard_1 : decode cX6_discard 1 = .ok (.iconst 0, 1) := by decide +kernel
theorem dX6_discard_2 : decode cX6_discard 2 = .ok (.putfield 71, 3) := by decide +kernel
theorem dX6_discard_5 : decode cX6_discard 5 = .ok (.aload_n 0, 1) := by decide +kernel
theorem dX6_discard_6 : decode cX6_discard 6 = .ok (.getfield 29, 3) := by decide +kernel
theorem dX6_discard_9 : decode cX6_discard 9 = .ok (.bipush 36, 2) := by decide +kernel
theorem dX6_discard_11 : decode cX6_discard 11 = .ok (.iaload, 1) := by decide +kernel
theorem dX6_discard_12 : decode cX6_discard 12 = .ok (.istore_n 1, 1) := by decide +kernel
theorem dX6_discard_13 : decode cX6_discard 13 = .ok (.aload_n 0, 1) := by decide +kernel
theorem dX6_discard_14 : decode cX6_discard 14 = .ok (.invokevirtual 109, 3) := by decide +kernel
theorem dX6_discard_17 : decode cX6_discard 17 = .ok (.iload_n 1, 1) := by decide +kernel
theorem dX6_discard_18 : decode cX6_discard 18 = .ok (.ireturn, 1) := by decide +kernel
theorem dX6_isLike_0 : decode cX6_isLike 0 = .ok (.aload_n 0, 1) := by decide +kernel
theorem dX6_isLike_1 : decode cX6_isLike 1 = .ok (.getfield 29, 3) := by decide +kernel
theorem dX6_isLike_4 : decode cX6_isLike 4 = .ok (.iload_n 1, 1) := by decide +kernel
theorem dX6_isLike_5 : decode cX6_isLike 5 = .ok (.iaload, 1) := by decide +kernel
theorem dX6_isLike_6 : decode cX6_isLike 6 = .ok (.aload_n 0, 1) := by decide +kernel
theorem dX6_isLike_7 : decode cX6_isLike 7 = .ok (.getfield 29, 3) := by decide +kernel
theorem dX6_isLike_10 : decode cX6_isLike 10 = .ok (.bipush 36, 2) := by decide +kernel
theorem dX6_isLike_12 : decode cX6_isLike 12 = .ok (.iaload, 1) := by decide +kernel
theorem dX6_isLike_13 : decode cX6_isLike 13 = .ok (.if_icmp .eq 5, 3) := by decide +kernel
theorem dX6_isLike_16 : decode cX6_isLike 16 = .ok (.iconst 0, 1) := by decide +kernel
theorem dX6_isLike_17 : decode cX6_isLike 17 = .ok (.ireturn, 1) := by decide +kernel
theorem dX6_isLike_18 : decode cX6_isLike 18 = .ok (.iconst 0, 1) := by decide +kernel
theorem dX6_isLike_19 : decode cX6_isLike 19 = .ok (.istore_n 2, 1) := by decide +kernel
theorem dX6_isLike_20 : decode cX6_isLike 20 = .ok (.iload_n 2, 1) := by decide +kernel
theorem dX6_isLike_21 : decode cX6_isLike 21 = .ok (.aload_n 0, 1) := by decide +kernel
theorem dX6_isLike_22 : decode cX6_isLike 22 = .ok (.getfield 29, 3) := by decide +kernel
theorem dX6_isLike_25 : decode cX6_isLike 25 = .ok (.iload_n 1, 1) := by decide +kernel
theorem dX6_isLike_26 : decode cX6_isLike 26 = .ok (.iaload, 1) := by decide +kernel
theorem dX6_isLike_27 : decode cX6_isLike 27 = .ok (.if_icmp .ge 132, 3) := by decide +kernel
theorem dX6_isLike_30 : decode cX6_isLike 30 = .ok (.iconst 5, 1) := by decide +kernel
theorem dX6_isLike_31 : decode cX6_isLike 31 = .ok (.iload_n 1, 1) := by decide +kernel
theorem dX6_isLike_32 : decode cX6_isLike 32 = .ok (.imul, 1) := by decide +kernel
theorem dX6_isLike_33 : decode cX6_isLike 33 = .ok (.iload_n 2, 1) := by decide +kernel
theorem dX6_isLike_34 : decode cX6_isLike 34 = .ok (.iadd, 1) := by decide +kernel
theorem dX6_isLike_35 : decode cX6_isLike 35 = .ok (.istore_n 3, 1) := by decide +kernel
theorem dX6_isLike_36 : decode cX6_isLike 36 = .ok (.sipush 180, 3) := by decide +kernel
theorem dX6_isLike_39 : decode cX6_isLike 39 = .ok (.iload_n 2, 1) := by decide +kernel
theorem dX6_isLike_40 : decode cX6_isLike 40 = .ok (.iadd, 1) := by decide +kernel
theorem dX6_isLike_41 : decode cX6_isLike 41 = .ok (.istore 4, 2) := by decide +kernel
theorem dX6_isLike_43 : decode cX6_isLike 43 = .ok (.aload_n 0, 1) := by decide +kernel
theorem dX6_isLike_44 : decode cX6_isLike 44 = .ok (.getfield 7, 3) := by decide +kernel
theorem dX6_isLike_47 : decode cX6_isLike 47 = .ok (.iload_n 3, 1) := by decide +kernel
theorem dX6_isLike_48 : decode cX6_isLike 48 = .ok (.iaload, 1) := by decide +kernel
theorem dX6_isLike_49 : decode cX6_isLike 49 = .ok (.aload_n 0, 1) := by decide +kernel
theorem dX6_isLike_50 : decode cX6_isLike 50 = .ok (.getfield 7, 3) := by decide +kernel
theorem dX6_isLike_53 : decode cX6_isLike 53 = .ok (.iload 4, 2) := by decide +kernel
theorem dX6_isLike_55 : decode cX6_isLike 55 = .ok (.iaload, 1) := by decide +kernel
theorem dX6_isLike_56 : decode cX6_isLike 56 = .ok (.if_icmp .ne 55, 3) := by decide +kernel
theorem dX6_isLike_59 : decode cX6_isLike 59 = .ok (.aload_n 0, 1) := by decide +kernel
theorem dX6_isLike_60 : decode cX6_isLike 60 = .ok (.getfield 13, 3) := by decide +kernel
theorem dX6_isLike_63 : decode cX6_isLike 63 = .ok (.iload_n 3, 1) := by decide +kernel
theorem dX6_isLike_64 : decode cX6_isLike 64 = .ok (.iaload, 1) := by decide +kernel
theorem dX6_isLike_65 : decode cX6_isLike 65 = .ok (.aload_n 0, 1) := by decide +kernel
theorem dX6_isLike_66 : decode cX6_isLike 66 = .ok (.getfield 13, 3) := by decide +kernel
theorem dX6_isLike_69 : decode cX6_isLike 69 = .ok (.iload 4, 2) := by decide +kernel
theorem dX6_isLike_71 : decode cX6_isLike 71 = .ok (.iaload, 1) := by decide +kernel
theorem dX6_isLike_72 : decode cX6_isLike 72 = .ok (.if_icmp .ne 39, 3) := by decide +kernel
theorem dX6_isLike_75 : decode cX6_isLike 75 = .ok (.aload_n 0, 1) := by decide +kernel
theorem dX6_isLike_76 : decode cX6_isLike 76 = .ok (.getfield 16, 3) := by decide +kernel
theorem dX6_isLike_79 : decode cX6_isLike 79 = .ok (.iload_n 3, 1) := by decide +kernel
theorem dX6_isLike_80 : decode cX6_isLike 80 = .ok (.iaload, 1) := by decide +kernel
theorem dX6_isLike_81 : decode cX6_isLike 81 = .ok (.aload_n 0, 1) := by decide +kernel
theorem dX6_isLike_82 : decode cX6_isLike 82 = .ok (.getfield 16, 3) := by decide +kernel
theorem dX6_isLike_85 : decode cX6_isLike 85 = .ok (.iload 4, 2) := by decide +kernel
theorem dX6_isLike_87 : decode cX6_isLike 87 = .ok (.iaload, 1) := by decide +kernel
theorem dX6_isLike_88 : decode cX6_isLike 88 = .ok (.if_icmp .ne 23, 3) := by decide +kernel
theorem dX6_isLike_91 : decode cX6_isLike 91 = .ok (.aload_n 0, 1) := by decide +kernel
theorem dX6_isLike_92 : decode cX6_isLike 92 = .ok (.getfield 19, 3) := by decide +kernel
theorem dX6_isLike_95 : decode cX6_isLike 95 = .ok (.iload_n 3, 1) := by decide +kernel
theorem dX6_isLike_96 : decode cX6_isLike 96 = .ok (.iaload, 1) := by decide +kernel
theorem dX6_isLike_97 : decode cX6_isLike 97 = .ok (.aload_n 0, 1) := by decide +kernel
theorem dX6_isLike_98 : decode cX6_isLike 98 = .ok (.getfield 19, 3) := by decide +kernel
theorem dX6_isLike_101 : decode cX6_isLike 101 = .ok (.iload 4, 2) := by decide +kernel
theorem dX6_isLike_103 : decode cX6_isLike 103 = .ok (.iaload, 1) := by decide +kernel
theorem dX6_isLike_104 : decode cX6_isLike 104 = .ok (.if_icmp .ne 7, 3) := by decide +kernel
theorem dX6_isLike_107 : decode cX6_isLike 107 = .ok (.iconst 1, 1) := by decide +kernel
theorem dX6_isLike_108 : decode cX6_isLike 108 = .ok (.goto 4, 3) := by decide +kernel
theorem dX6_isLike_111 : decode cX6_isLike 111 = .ok (.iconst 0, 1) := by decide +kernel
theorem dX6_isLike_112 : decode cX6_isLike 112 = .ok (.istore 5, 2) := by decide +kernel
theorem dX6_isLike_114 : decode cX6_isLike 114 = .ok (.iload 5, 2) := by decide +kernel
theorem dX6_isLike_116 : decode cX6_isLike 116 = .ok (.ifCond .eq 35, 3) := by decide +kernel
theorem dX6_isLike_119 : decode cX6_isLike 119 = .ok (.aload_n 0, 1) := by decide +kernel
theorem dX6_isLike_120 : decode cX6_isLike 120 = .ok (.getfield 22, 3) := by decide +kernel
theorem dX6_isLike_123 : decode cX6_isLike 123 = .ok (.iload_n 3, 1) := by decide +kernel
theorem dX6_isLike_124 : decode cX6_isLike 124 = .ok (.baload, 1) := by decide +kernel
theorem dX6_isLike_125 : decode cX6_isLike 125 = .ok (.aload_n 0, 1) := by decide +kernel
theorem dX6_isLike_126 : decode cX6_isLike 126 = .ok (.getfield 22, 3) := by decide +kernel
theorem dX6_isLike_129 : decode cX6_isLike 129 = .ok (.iload 4, 2) := by decide +kernel
theorem dX6_isLike_131 : decode cX6_isLike 131 = .ok (.baload, 1) := by decide +kernel
theorem dX6_isLike_132 : decode cX6_isLike 132 = .ok (.if_icmp .ne 19, 3) := by decide +kernel
theorem dX6_isLike_135 : decode cX6_isLike 135 = .ok (.aload_n 0, 1) := by decide +kernel
theorem dX6_isLike_136 : decode cX6_isLike 136 = .ok (.getfield 26, 3) := by decide +kernel
theorem dX6_isLike_139 : decode cX6_isLike 139 = .ok (.iload_n 3, 1) := by decide +kernel
theorem dX6_isLike_140 : decode cX6_isLike 140 = .ok (.iaload, 1) := by decide +kernel
theorem dX6_isLike_141 : decode cX6_isLike 141 = .ok (.aload_n 0, 1) := by decide +kernel
theorem dX6_isLike_142 : decode cX6_isLike 142 = .ok (.getfield 26, 3) := by decide +kernel
theorem dX6_isLike_145 : decode cX6_isLike 145 = .ok (.iload 4, 2) := by decide +kernel
theorem dX6_isLike_147 : decode cX6_isLike 147 = .ok (.iaload, 1) := by decide +kernel
theorem dX6_isLike_148 : decode cX6_isLike 148 = .ok (.if_icmp .eq 5, 3) := by decide +kernel
theorem dX6_isLike_151 : decode cX6_isLike 151 = .ok (.iconst 0, 1) := by decide +kernel
theorem dX6_isLike_152 : decode cX6_isLike 152 = .ok (.ireturn, 1) := by decide +kernel
theorem dX6_isLike_153 : decode cX6_isLike 153 = .ok (.iinc 2 1, 3) := by decide +kernel
theorem dX6_isLike_156 : decode cX6_isLike 156 = .ok (.goto (-136), 3) := by decide +kernel
theorem dX6_isLike_159 : decode cX6_isLike 159 = .ok (.iconst 1, 1) := by decide +kernel
theorem dX6_isLike_160 : decode cX6_isLike 160 = .ok (.ireturn, 1) := by decide +kernel
theorem dX6_source_0 : decode cX6_source 0 = .ok (.aload_n 0, 1) := by decide +kernel
theorem dX6_source_1 : decode cX6_source 1 = .ok (.iload_n 2, 1) := by decide +kernel
theorem dX6_source_2 : decode cX6_source 2 = .ok (.aload_n 0, 1) := by decide +kernel
theorem dX6_source_3 : decode cX6_source 3 = .ok (.getfield 7, 3) := by decide +kernel
theorem dX6_source_6 : decode cX6_source 6 = .ok (.iload_n 1, 1) := by decide +kernel
theorem dX6_source_7 : decode cX6_source 7 = .ok (.iaload, 1) := by decide +kernel
theorem dX6_source_8 : decode cX6_source 8 = .ok (.invokevirtual 94, 3) := by decide +kernel
theorem dX6_source_11 : decode cX6_source 11 = .ok (.istore_n 3, 1) := by decide +kernel
theorem dX6_source_12 : decode cX6_source 12 = .ok (.iload_n 3, 1) := by decide +kernel
theorem dX6_source_13 : decode cX6_source 13 = .ok (.iconst (-1), 1) := by decide +kernel
theorem dX6_source_14 : decode cX6_source 14 = .ok (.if_icmp .eq 7, 3) := by decide +kernel
theorem dX6_source_17 : decode cX6_source 17 = .ok (.iload_n 3, 1) := by decide +kernel
theorem dX6_source_18 : decode cX6_source 18 = .ok (.goto 28, 3) := by decide +kernel
theorem dX6_source_21 : decode cX6_source 21 = .ok (.aload_n 0, 1) := by decide +kernel
theorem dX6_source_22 : decode cX6_source 22 = .ok (.getfield 19, 3) := by decide +kernel
theorem dX6_source_25 : decode cX6_source 25 = .ok (.iload_n 1, 1) := by decide +kernel
theorem dX6_source_26 : decode cX6_source 26 = .ok (.iaload, 1) := by decide +kernel
theorem dX6_source_27 : decode cX6_source 27 = .ok (.iconst (-1), 1) := by decide +kernel
theorem dX6_source_28 : decode cX6_source 28 = .ok (.if_icmp .ne 7, 3) := by decide +kernel
theorem dX6_source_31 : decode cX6_source 31 = .ok (.iconst (-1), 1) := by decide +kernel
theorem dX6_source_32 : decode cX6_source 32 = .ok (.goto 14, 3) := by decide +kernel
theorem dX6_source_35 : decode cX6_source 35 = .ok (.aload_n 0, 1) := by decide +kernel
theorem dX6_source_36 : decode cX6_source 36 = .ok (.iload_n 2, 1) := by decide +kernel
theorem dX6_source_37 : decode cX6_source 37 = .ok (.aload_n 0, 1) := by decide +kernel
theorem dX6_source_38 : decode cX6_source 38 = .ok (.getfield 19, 3) := by decide +kernel
theorem dX6_source_41 : decode cX6_source 41 = .ok (.iload_n 1, 1) := by decide +kernel
theorem dX6_source_42 : decode cX6_source 42 = .ok (.iaload, 1) := by decide +kernel
theorem dX6_source_43 : decode cX6_source 43 = .ok (.invokevirtual 94, 3) := by decide +kernel
theorem dX6_source_46 : decode cX6_source 46 = .ok (.ireturn, 1) := by decide +kernel
theorem dX6_isRead_0 : decode cX6_isRead 0 = .ok (.aload_n 0, 1) := by decide +kernel
theorem dX6_isRead_1 : decode cX6_isRead 1 = .ok (.getfield 13, 3) := by decide +kernel
theorem dX6_isRead_4 : decode cX6_isRead 4 = .ok (.iload_n 1, 1) := by decide +kernel
theorem dX6_isRead_5 : decode cX6_isRead 5 = .ok (.iaload, 1) := by decide +kernel
theorem dX6_isRead_6 : decode cX6_isRead 6 = .ok (.istore_n 3, 1) := by decide +kernel
theorem dX6_isRead_7 : decode cX6_isRead 7 = .ok (.iload_n 3, 1) := by decide +kernel
theorem dX6_isRead_8 : decode cX6_isRead 8 = .ok (.iconst 4, 1) := by decide +kernel
theorem dX6_isRead_9 : decode cX6_isRead 9 = .ok (.if_icmp .ne 43, 3) := by decide +kernel
theorem dX6_isRead_12 : decode cX6_isRead 12 = .ok (.aload_n 0, 1) := by decide +kernel
theorem dX6_isRead_13 : decode cX6_isRead 13 = .ok (.getfield 13, 3) := by decide +kernel
theorem dX6_isRead_16 : decode cX6_isRead 16 = .ok (.iload_n 2, 1) := by decide +kernel
theorem dX6_isRead_17 : decode cX6_isRead 17 = .ok (.iaload, 1) := by decide +kernel
theorem dX6_isRead_18 : decode cX6_isRead 18 = .ok (.iconst 4, 1) := by decide +kernel
theorem dX6_isRead_19 : decode cX6_isRead 19 = .ok (.if_icmp .ne 33, 3) := by decide +kernel
theorem dX6_isRead_22 : decode cX6_isRead 22 = .ok (.aload_n 0, 1) := by decide +kernel
theorem dX6_isRead_23 : decode cX6_isRead 23 = .ok (.getfield 35, 3) := by decide +kernel
theorem dX6_isRead_26 : decode cX6_isRead 26 = .ok (.bipush 37, 2) := by decide +kernel
theorem dX6_isRead_28 : decode cX6_isRead 28 = .ok (.aload_n 0, 1) := by decide +kernel
theorem dX6_isRead_29 : decode cX6_isRead 29 = .ok (.aload_n 0, 1) := by decide +kernel
theorem dX6_isRead_30 : decode cX6_isRead 30 = .ok (.getfield 16, 3) := by decide +kernel
theorem dX6_isRead_33 : decode cX6_isRead 33 = .ok (.iload_n 1, 1) := by decide +kernel
theorem dX6_isRead_34 : decode cX6_isRead 34 = .ok (.iaload, 1) := by decide +kernel
theorem dX6_isRead_35 : decode cX6_isRead 35 = .ok (.invokevirtual 90, 3) := by decide +kernel
theorem dX6_isRead_38 : decode cX6_isRead 38 = .ok (.imul, 1) := by decide +kernel
theorem dX6_isRead_39 : decode cX6_isRead 39 = .ok (.aload_n 0, 1) := by decide +kernel
theorem dX6_isRead_40 : decode cX6_isRead 40 = .ok (.aload_n 0, 1) := by decide +kernel
theorem dX6_isRead_41 : decode cX6_isRead 41 = .ok (.getfield 16, 3) := by decide +kernel
theorem dX6_isRead_44 : decode cX6_isRead 44 = .ok (.iload_n 2, 1) := by decide +kernel
theorem dX6_isRead_45 : decode cX6_isRead 45 = .ok (.iaload, 1) := by decide +kernel
theorem dX6_isRead_46 : decode cX6_isRead 46 = .ok (.invokevirtual 90, 3) := by decide +kernel
theorem dX6_isRead_49 : decode cX6_isRead 49 = .ok (.iadd, 1) := by decide +kernel
theorem dX6_isRead_50 : decode cX6_isRead 50 = .ok (.baload, 1) := by decide +kernel
theorem dX6_isRead_51 : decode cX6_isRead 51 = .ok (.ireturn, 1) := by decide +kernel
theorem dX6_isRead_52 : decode cX6_isRead 52 = .ok (.iload_n 3, 1) := by decide +kernel
theorem dX6_isRead_53 : decode cX6_isRead 53 = .ok (.aload_n 0, 1) := by decide +kernel
theorem dX6_isRead_54 : decode cX6_isRead 54 = .ok (.getfield 13, 3) := by decide +kernel
theorem dX6_isRead_57 : decode cX6_isRead 57 = .ok (.iload_n 2, 1) := by decide +kernel
theorem dX6_isRead_58 : decode cX6_isRead 58 = .ok (.iaload, 1) := by decide +kernel
theorem dX6_isRead_59 : decode cX6_isRead 59 = .ok (.if_icmp .eq 17, 3) := by decide +kernel
theorem dX6_isRead_62 : decode cX6_isRead 62 = .ok (.iload_n 3, 1) := by decide +kernel
theorem dX6_isRead_63 : decode cX6_isRead 63 = .ok (.iconst 1, 1) := by decide +kernel
theorem dX6_isRead_64 : decode cX6_isRead 64 = .ok (.if_icmp .ne 16, 3) := by decide +kernel
theorem dX6_isRead_67 : decode cX6_isRead 67 = .ok (.aload_n 0, 1) := by decide +kernel
theorem dX6_isRead_68 : decode cX6_isRead 68 = .ok (.getfield 13, 3) := by decide +kernel
theorem dX6_isRead_71 : decode cX6_isRead 71 = .ok (.iload_n 2, 1) := by decide +kernel
theorem dX6_isRead_72 : decode cX6_isRead 72 = .ok (.iaload, 1) := by decide +kernel
theorem dX6_isRead_73 : decode cX6_isRead 73 = .ok (.ifCond .ne 7, 3) := by decide +kernel
theorem dX6_isRead_76 : decode cX6_isRead 76 = .ok (.iconst 1, 1) := by decide +kernel
theorem dX6_isRead_77 : decode cX6_isRead 77 = .ok (.goto 4, 3) := by decide +kernel
theorem dX6_isRead_80 : decode cX6_isRead 80 = .ok (.iconst 0, 1) := by decide +kernel
theorem dX6_isRead_81 : decode cX6_isRead 81 = .ok (.istore 4, 2) := by decide +kernel
theorem dX6_isRead_83 : decode cX6_isRead 83 = .ok (.iload 4, 2) := by decide +kernel
theorem dX6_isRead_85 : decode cX6_isRead 85 = .ok (.ifCond .eq 36, 3) := by decide +kernel
theorem dX6_isRead_88 : decode cX6_isRead 88 = .ok (.iload_n 3, 1) := by decide +kernel
theorem dX6_isRead_89 : decode cX6_isRead 89 = .ok (.iconst 3, 1) := by decide +kernel
theorem dX6_isRead_90 : decode cX6_isRead 90 = .ok (.if_icmp .ne 27, 3) := by decide +kernel
theorem dX6_isRead_93 : decode cX6_isRead 93 = .ok (.aload_n 0, 1) := by decide +kernel
theorem dX6_isRead_94 : decode cX6_isRead 94 = .ok (.getfield 16, 3) := by decide +kernel
theorem dX6_isRead_97 : decode cX6_isRead 97 = .ok (.iload_n 1, 1) := by decide +kernel
theorem dX6_isRead_98 : decode cX6_isRead 98 = .ok (.iaload, 1) := by decide +kernel
theorem dX6_isRead_99 : decode cX6_isRead 99 = .ok (.aload_n 0, 1) := by decide +kernel
theorem dX6_isRead_100 : decode cX6_isRead 100 = .ok (.getfield 16, 3) := by decide +kernel
theorem dX6_isRead_103 : decode cX6_isRead 103 = .ok (.iload_n 2, 1) := by decide +kernel
theorem dX6_isRead_104 : decode cX6_isRead 104 = .ok (.iaload, 1) := by decide +kernel
theorem dX6_isRead_105 : decode cX6_isRead 105 = .ok (.if_icmp .ge 12, 3) := by decide +kernel
theorem dX6_isRead_108 : decode cX6_isRead 108 = .ok (.aload_n 0, 1) := by decide +kernel
theorem dX6_isRead_109 : decode cX6_isRead 109 = .ok (.getfield 22, 3) := by decide +kernel
theorem dX6_isRead_112 : decode cX6_isRead 112 = .ok (.iload_n 1, 1) := by decide +kernel
theorem dX6_isRead_113 : decode cX6_isRead 113 = .ok (.baload, 1) := by decide +kernel
theorem dX6_isRead_114 : decode cX6_isRead 114 = .ok (.ifCond .eq 7, 3) := by decide +kernel
theorem dX6_isRead_117 : decode cX6_isRead 117 = .ok (.iconst 1, 1) := by decide +kernel
theorem dX6_isRead_118 : decode cX6_isRead 118 = .ok (.goto 4, 3) := by decide +kernel
theorem dX6_isRead_121 : decode cX6_isRead 121 = .ok (.iconst 0, 1) := by decide +kernel
theorem dX6_isRead_122 : decode cX6_isRead 122 = .ok (.ireturn, 1) := by decide +kernel
theorem dX6_canReadNow_0 : decode cX6_canReadNow 0 = .ok (.iconst 0, 1) := by decide +kernel
theorem dX6_canReadNow_1 : decode cX6_canReadNow 1 = .ok (.istore_n 3, 1) := by decide +kernel
theorem dX6_canReadNow_2 : decode cX6_canReadNow 2 = .ok (.iload_n 3, 1) := by decide +kernel
theorem dX6_canReadNow_3 : decode cX6_canReadNow 3 = .ok (.aload_n 0, 1) := by decide +kernel
theorem dX6_canReadNow_4 : decode cX6_canReadNow 4 = .ok (.getfield 29, 3) := by decide +kernel
theorem dX6_canReadNow_7 : decode cX6_canReadNow 7 = .ok (.iload_n 1, 1) := by decide +kernel
theorem dX6_canReadNow_8 : decode cX6_canReadNow 8 = .ok (.iaload, 1) := by decide +kernel
theorem dX6_canReadNow_9 : decode cX6_canReadNow 9 = .ok (.if_icmp .ge 61, 3) := by decide +kernel
theorem dX6_canReadNow_12 : decode cX6_canReadNow 12 = .ok (.iconst 5, 1) := by decide +kernel
theorem dX6_canReadNow_13 : decode cX6_canReadNow 13 = .ok (.iload_n 1, 1) := by decide +kernel
theorem dX6_canReadNow_14 : decode cX6_canReadNow 14 = .ok (.imul, 1) := by decide +kernel
theorem dX6_canReadNow_15 : decode cX6_canReadNow 15 = .ok (.iload_n 3, 1) := by decide +kernel
theorem dX6_canReadNow_16 : decode cX6_canReadNow 16 = .ok (.iadd, 1) := by decide +kernel
theorem dX6_canReadNow_17 : decode cX6_canReadNow 17 = .ok (.istore 4, 2) := by decide +kernel
theorem dX6_canReadNow_19 : decode cX6_canReadNow 19 = .ok (.aload_n 0, 1) := by decide +kernel
theorem dX6_canReadNow_20 : decode cX6_canReadNow 20 = .ok (.iload 4, 2) := by decide +kernel
theorem dX6_canReadNow_22 : decode cX6_canReadNow 22 = .ok (.iload_n 2, 1) := by decide +kernel
theorem dX6_canReadNow_23 : decode cX6_canReadNow 23 = .ok (.invokevirtual 112, 3) := by decide +kernel
theorem dX6_canReadNow_26 : decode cX6_canReadNow 26 = .ok (.istore 5, 2) := by decide +kernel
theorem dX6_canReadNow_28 : decode cX6_canReadNow 28 = .ok (.iload 5, 2) := by decide +kernel
theorem dX6_canReadNow_30 : decode cX6_canReadNow 30 = .ok (.iconst (-1), 1) := by decide +kernel
theorem dX6_canReadNow_31 : decode cX6_canReadNow 31 = .ok (.if_icmp .ne 16, 3) := by decide +kernel
theorem dX6_canReadNow_34 : decode cX6_canReadNow 34 = .ok (.aload_n 0, 1) := by decide +kernel
theorem dX6_canReadNow_35 : decode cX6_canReadNow 35 = .ok (.getfield 22, 3) := by decide +kernel
theorem dX6_canReadNow_38 : decode cX6_canReadNow 38 = .ok (.iload 4, 2) := by decide +kernel
theorem dX6_canReadNow_40 : decode cX6_canReadNow 40 = .ok (.baload, 1) := by decide +kernel
theorem dX6_canReadNow_41 : decode cX6_canReadNow 41 = .ok (.ifCond .ne 23, 3) := by decide +kernel
theorem dX6_canReadNow_44 : decode cX6_canReadNow 44 = .ok (.goto 18, 3) := by decide +kernel
theorem dX6_canReadNow_47 : decode cX6_canReadNow 47 = .ok (.aload_n 0, 1) := by decide +kernel
theorem dX6_canReadNow_48 : decode cX6_canReadNow 48 = .ok (.iload 4, 2) := by decide +kernel
theorem dX6_canReadNow_50 : decode cX6_canReadNow 50 = .ok (.iconst 5, 1) := by decide +kernel
theorem dX6_canReadNow_51 : decode cX6_canReadNow 51 = .ok (.iload_n 2, 1) := by decide +kernel
theorem dX6_canReadNow_52 : decode cX6_canReadNow 52 = .ok (.imul, 1) := by decide +kernel
theorem dX6_canReadNow_53 : decode cX6_canReadNow 53 = .ok (.iload 5, 2) := by decide +kernel
theorem dX6_canReadNow_55 : decode cX6_canReadNow 55 = .ok (.iadd, 1) := by decide +kernel
theorem dX6_canReadNow_56 : decode cX6_canReadNow 56 = .ok (.invokevirtual 115, 3) := by decide +kernel
theorem dX6_canReadNow_59 : decode cX6_canReadNow 59 = .ok (.ifCond .ne 5, 3) := by decide +kernel
theorem dX6_canReadNow_62 : decode cX6_canReadNow 62 = .ok (.iconst 0, 1) := by decide +kernel
theorem dX6_canReadNow_63 : decode cX6_canReadNow 63 = .ok (.ireturn, 1) := by decide +kernel
theorem dX6_canReadNow_64 : decode cX6_canReadNow 64 = .ok (.iinc 3 1, 3) := by decide +kernel
theorem dX6_canReadNow_67 : decode cX6_canReadNow 67 = .ok (.goto (-65), 3) := by decide +kernel
theorem dX6_canReadNow_70 : decode cX6_canReadNow 70 = .ok (.iconst 1, 1) := by decide +kernel
theorem dX6_canReadNow_71 : decode cX6_canReadNow 71 = .ok (.ireturn, 1) := by decide +kernel
theorem dX6_tells_0 : decode cX6_tells 0 = .ok (.iconst 0, 1) := by decide +kernel
theorem dX6_tells_1 : decode cX6_tells 1 = .ok (.istore_n 1, 1) := by decide +kernel
theorem dX6_tells_2 : decode cX6_tells 2 = .ok (.iload_n 1, 1) := by decide +kernel
theorem dX6_tells_3 : decode cX6_tells 3 = .ok (.sipush 1369, 3) := by decide +kernel
theorem dX6_tells_6 : decode cX6_tells 6 = .ok (.if_icmp .ge 79, 3) := by decide +kernel
theorem dX6_tells_9 : decode cX6_tells 9 = .ok (.iload_n 1, 1) := by decide +kernel
theorem dX6_tells_10 : decode cX6_tells 10 = .ok (.bipush 37, 2) := by decide +kernel
theorem dX6_tells_12 : decode cX6_tells 12 = .ok (.idiv, 1) := by decide +kernel
theorem dX6_tells_13 : decode cX6_tells 13 = .ok (.istore_n 2, 1) := by decide +kernel
theorem dX6_tells_14 : decode cX6_tells 14 = .ok (.iload_n 1, 1) := by decide +kernel
theorem dX6_tells_15 : decode cX6_tells 15 = .ok (.bipush 37, 2) := by decide +kernel
theorem dX6_tells_17 : decode cX6_tells 17 = .ok (.irem, 1) := by decide +kernel
theorem dX6_tells_18 : decode cX6_tells 18 = .ok (.istore_n 3, 1) := by decide +kernel
theorem dX6_tells_19 : decode cX6_tells 19 = .ok (.iload_n 2, 1) := by decide +kernel
theorem dX6_tells_20 : decode cX6_tells 20 = .ok (.aload_n 0, 1) := by decide +kernel
theorem dX6_tells_21 : decode cX6_tells 21 = .ok (.getfield 118, 3) := by decide +kernel
theorem dX6_tells_24 : decode cX6_tells 24 = .ok (.if_icmp .lt 9, 3) := by decide +kernel
theorem dX6_tells_27 : decode cX6_tells 27 = .ok (.iload_n 2, 1) := by decide +kernel
theorem dX6_tells_28 : decode cX6_tells 28 = .ok (.bipush 36, 2) := by decide +kernel
theorem dX6_tells_30 : decode cX6_tells 30 = .ok (.if_icmp .ne 21, 3) := by decide +kernel
theorem dX6_tells_33 : decode cX6_tells 33 = .ok (.iload_n 3, 1) := by decide +kernel
theorem dX6_tells_34 : decode cX6_tells 34 = .ok (.aload_n 0, 1) := by decide +kernel
theorem dX6_tells_35 : decode cX6_tells 35 = .ok (.getfield 118, 3) := by decide +kernel
theorem dX6_tells_38 : decode cX6_tells 38 = .ok (.if_icmp .lt 9, 3) := by decide +kernel
theorem dX6_tells_41 : decode cX6_tells 41 = .ok (.iload_n 3, 1) := by decide +kernel
theorem dX6_tells_42 : decode cX6_tells 42 = .ok (.bipush 36, 2) := by decide +kernel
theorem dX6_tells_44 : decode cX6_tells 44 = .ok (.if_icmp .ne 7, 3) := by decide +kernel
theorem dX6_tells_47 : decode cX6_tells 47 = .ok (.iconst 1, 1) := by decide +kernel
theorem dX6_tells_48 : decode cX6_tells 48 = .ok (.goto 4, 3) := by decide +kernel
theorem dX6_tells_51 : decode cX6_tells 51 = .ok (.iconst 0, 1) := by decide +kernel
theorem dX6_tells_52 : decode cX6_tells 52 = .ok (.istore 4, 2) := by decide +kernel
theorem dX6_tells_54 : decode cX6_tells 54 = .ok (.aload_n 0, 1) := by decide +kernel
theorem dX6_tells_55 : decode cX6_tells 55 = .ok (.getfield 35, 3) := by decide +kernel
theorem dX6_tells_58 : decode cX6_tells 58 = .ok (.iload_n 1, 1) := by decide +kernel
theorem dX6_tells_59 : decode cX6_tells 59 = .ok (.iload 4, 2) := by decide +kernel
theorem dX6_tells_61 : decode cX6_tells 61 = .ok (.ifCond .eq 16, 3) := by decide +kernel
theorem dX6_tells_64 : decode cX6_tells 64 = .ok (.aload_n 0, 1) := by decide +kernel
theorem dX6_tells_65 : decode cX6_tells 65 = .ok (.iload_n 2, 1) := by decide +kernel
theorem dX6_tells_66 : decode cX6_tells 66 = .ok (.iload_n 3, 1) := by decide +kernel
theorem dX6_tells_67 : decode cX6_tells 67 = .ok (.invokevirtual 121, 3) := by decide +kernel
theorem dX6_tells_70 : decode cX6_tells 70 = .ok (.ifCond .eq 7, 3) := by decide +kernel
theorem dX6_tells_73 : decode cX6_tells 73 = .ok (.iconst 1, 1) := by decide +kernel
theorem dX6_tells_74 : decode cX6_tells 74 = .ok (.goto 4, 3) := by decide +kernel
theorem dX6_tells_77 : decode cX6_tells 77 = .ok (.iconst 0, 1) := by decide +kernel
theorem dX6_tells_78 : decode cX6_tells 78 = .ok (.bastore, 1) := by decide +kernel
theorem dX6_tells_79 : decode cX6_tells 79 = .ok (.iinc 1 1, 3) := by decide +kernel
theorem dX6_tells_82 : decode cX6_tells 82 = .ok (.goto (-80), 3) := by decide +kernel
theorem dX6_tells_85 : decode cX6_tells 85 = .ok (.return_, 1) := by decide +kernel
theorem dX6_isAcceptedBy_0 : decode cX6_isAcceptedBy 0 = .ok (.aload_n 0, 1) := by decide +kernel
theorem dX6_isAcceptedBy_1 : decode cX6_isAcceptedBy 1 = .ok (.invokevirtual 124, 3) := by decide +kernel
theorem dX6_isAcceptedBy_4 : decode cX6_isAcceptedBy 4 = .ok (.iconst 1, 1) := by decide +kernel
theorem dX6_isAcceptedBy_5 : decode cX6_isAcceptedBy 5 = .ok (.istore_n 2, 1) := by decide +kernel
theorem dX6_isAcceptedBy_6 : decode cX6_isAcceptedBy 6 = .ok (.aload_n 0, 1) := by decide +kernel
theorem dX6_isAcceptedBy_7 : decode cX6_isAcceptedBy 7 = .ok (.getfield 44, 3) := by decide +kernel
theorem dX6_isAcceptedBy_10 : decode cX6_isAcceptedBy 10 = .ok (.iload_n 1, 1) := by decide +kernel
theorem dX6_isAcceptedBy_11 : decode cX6_isAcceptedBy 11 = .ok (.iaload, 1) := by decide +kernel
theorem dX6_isAcceptedBy_12 : decode cX6_isAcceptedBy 12 = .ok (.iconst 1, 1) := by decide +kernel
theorem dX6_isAcceptedBy_13 : decode cX6_isAcceptedBy 13 = .ok (.isub, 1) := by decide +kernel
theorem dX6_isAcceptedBy_14 : decode cX6_isAcceptedBy 14 = .ok (.istore_n 3, 1) := by decide +kernel
theorem dX6_isAcceptedBy_15 : decode cX6_isAcceptedBy 15 = .ok (.iload_n 3, 1) := by decide +kernel
theorem dX6_isAcceptedBy_16 : decode cX6_isAcceptedBy 16 = .ok (.ifCond .lt 125, 3) := by decide +kernel
theorem dX6_isAcceptedBy_19 : decode cX6_isAcceptedBy 19 = .ok (.aload_n 0, 1) := by decide +kernel
theorem dX6_isAcceptedBy_20 : decode cX6_isAcceptedBy 20 = .ok (.iload_n 1, 1) := by decide +kernel
theorem dX6_isAcceptedBy_21 : decode cX6_isAcceptedBy 21 = .ok (.iload_n 3, 1) := by decide +kernel
theorem dX6_isAcceptedBy_22 : decode cX6_isAcceptedBy 22 = .ok (.invokevirtual 87, 3) := by decide +kernel
theorem dX6_isAcceptedBy_25 : decode cX6_isAcceptedBy 25 = .ok (.ifCond .eq 20, 3) := by decide +kernel
theorem dX6_isAcceptedBy_28 : decode cX6_isAcceptedBy 28 = .ok (.iload_n 2, 1) := by decide +kernel
theorem dX6_isAcceptedBy_29 : decode cX6_isAcceptedBy 29 = .ok (.ifCond .ne 12, 3) := by decide +kernel
theorem dX6_isAcceptedBy_32 : decode cX6_isAcceptedBy 32 = .ok (.aload_n 0, 1) := by decide +kernel
theorem dX6_isAcceptedBy_33 : decode cX6_isAcceptedBy 33 = .ok (.getfield 50, 3) := by decide +kernel
theorem dX6_isAcceptedBy_36 : decode cX6_isAcceptedBy 36 = .ok (.iload_n 1, 1) := by decide +kernel
theorem dX6_isAcceptedBy_37 : decode cX6_isAcceptedBy 37 = .ok (.baload, 1) := by decide +kernel
theorem dX6_isAcceptedBy_38 : decode cX6_isAcceptedBy 38 = .ok (.ifCond .eq 7, 3) := by decide +kernel
theorem dX6_isAcceptedBy_41 : decode cX6_isAcceptedBy 41 = .ok (.iconst 1, 1) := by decide +kernel
theorem dX6_isAcceptedBy_42 : decode cX6_isAcceptedBy 42 = .ok (.goto 4, 3) := by decide +kernel
theorem dX6_isAcceptedBy_45 : decode cX6_isAcceptedBy 45 = .ok (.iconst 0, 1) := by decide +kernel
theorem dX6_isAcceptedBy_46 : decode cX6_isAcceptedBy 46 = .ok (.istore 4, 2) := by decide +kernel
theorem dX6_isAcceptedBy_48 : decode cX6_isAcceptedBy 48 = .ok (.aload_n 0, 1) := by decide +kernel
theorem dX6_isAcceptedBy_49 : decode cX6_isAcceptedBy 49 = .ok (.getfield 38, 3) := by decide +kernel
theorem dX6_isAcceptedBy_52 : decode cX6_isAcceptedBy 52 = .ok (.bipush 6, 2) := by decide +kernel
theorem dX6_isAcceptedBy_54 : decode cX6_isAcceptedBy 54 = .ok (.iload_n 1, 1) := by decide +kernel
theorem dX6_isAcceptedBy_55 : decode cX6_isAcceptedBy 55 = .ok (.imul, 1) := by decide +kernel
theorem dX6_isAcceptedBy_56 : decode cX6_isAcceptedBy 56 = .ok (.iload_n 3, 1) := by decide +kernel
theorem dX6_isAcceptedBy_57 : decode cX6_isAcceptedBy 57 = .ok (.iadd, 1) := by decide +kernel
theorem dX6_isAcceptedBy_58 : decode cX6_isAcceptedBy 58 = .ok (.iaload, 1) := by decide +kernel
theorem dX6_isAcceptedBy_59 : decode cX6_isAcceptedBy 59 = .ok (.istore 5, 2) := by decide +kernel
theorem dX6_isAcceptedBy_61 : decode cX6_isAcceptedBy 61 = .ok (.iload 4, 2) := by decide +kernel
theorem dX6_isAcceptedBy_63 : decode cX6_isAcceptedBy 63 = .ok (.ifCond .eq 57, 3) := by decide +kernel
theorem dX6_isAcceptedBy_66 : decode cX6_isAcceptedBy 66 = .ok (.aload_n 0, 1) := by decide +kernel
theorem dX6_isAcceptedBy_67 : decode cX6_isAcceptedBy 67 = .ok (.getfield 47, 3) := by decide +kernel
theorem dX6_isAcceptedBy_70 : decode cX6_isAcceptedBy 70 = .ok (.iload_n 1, 1) := by decide +kernel
theorem dX6_isAcceptedBy_71 : decode cX6_isAcceptedBy 71 = .ok (.iaload, 1) := by decide +kernel
theorem dX6_isAcceptedBy_72 : decode cX6_isAcceptedBy 72 = .ok (.iconst 2, 1) := by decide +kernel
theorem dX6_isAcceptedBy_73 : decode cX6_isAcceptedBy 73 = .ok (.irem, 1) := by decide +kernel
theorem dX6_isAcceptedBy_74 : decode cX6_isAcceptedBy 74 = .ok (.iconst 1, 1) := by decide +kernel
theorem dX6_isAcceptedBy_75 : decode cX6_isAcceptedBy 75 = .ok (.if_icmp .ne 17, 3) := by decide +kernel
theorem dX6_isAcceptedBy_78 : decode cX6_isAcceptedBy 78 = .ok (.aload_n 0, 1) := by decide +kernel
theorem dX6_isAcceptedBy_79 : decode cX6_isAcceptedBy 79 = .ok (.getfield 35, 3) := by decide +kernel
theorem dX6_isAcceptedBy_82 : decode cX6_isAcceptedBy 82 = .ok (.sipush 1332, 3) := by decide +kernel
theorem dX6_isAcceptedBy_85 : decode cX6_isAcceptedBy 85 = .ok (.iload 5, 2) := by decide +kernel
theorem dX6_isAcceptedBy_87 : decode cX6_isAcceptedBy 87 = .ok (.iadd, 1) := by decide +kernel
theorem dX6_isAcceptedBy_88 : decode cX6_isAcceptedBy 88 = .ok (.baload, 1) := by decide +kernel
theorem dX6_isAcceptedBy_89 : decode cX6_isAcceptedBy 89 = .ok (.ifCond .eq 29, 3) := by decide +kernel
theorem dX6_isAcceptedBy_92 : decode cX6_isAcceptedBy 92 = .ok (.aload_n 0, 1) := by decide +kernel
theorem dX6_isAcceptedBy_93 : decode cX6_isAcceptedBy 93 = .ok (.getfield 47, 3) := by decide +kernel
theorem dX6_isAcceptedBy_96 : decode cX6_isAcceptedBy 96 = .ok (.iload_n 1, 1) := by decide +kernel
theorem dX6_isAcceptedBy_97 : decode cX6_isAcceptedBy 97 = .ok (.iaload, 1) := by decide +kernel
theorem dX6_isAcceptedBy_98 : decode cX6_isAcceptedBy 98 = .ok (.iconst 1, 1) := by decide +kernel
theorem dX6_isAcceptedBy_99 : decode cX6_isAcceptedBy 99 = .ok (.if_icmp .le 21, 3) := by decide +kernel
theorem dX6_isAcceptedBy_102 : decode cX6_isAcceptedBy 102 = .ok (.aload_n 0, 1) := by decide +kernel
theorem dX6_isAcceptedBy_103 : decode cX6_isAcceptedBy 103 = .ok (.getfield 35, 3) := by decide +kernel
theorem dX6_isAcceptedBy_106 : decode cX6_isAcceptedBy 106 = .ok (.bipush 37, 2) := by decide +kernel
theorem dX6_isAcceptedBy_108 : decode cX6_isAcceptedBy 108 = .ok (.iload 5, 2) := by decide +kernel
theorem dX6_isAcceptedBy_110 : decode cX6_isAcceptedBy 110 = .ok (.imul, 1) := by decide +kernel
theorem dX6_isAcceptedBy_111 : decode cX6_isAcceptedBy 111 = .ok (.bipush 36, 2) := by decide +kernel
theorem dX6_isAcceptedBy_113 : decode cX6_isAcceptedBy 113 = .ok (.iadd, 1) := by decide +kernel
theorem dX6_isAcceptedBy_114 : decode cX6_isAcceptedBy 114 = .ok (.baload, 1) := by decide +kernel
theorem dX6_isAcceptedBy_115 : decode cX6_isAcceptedBy 115 = .ok (.ifCond .ne 5, 3) := by decide +kernel
theorem dX6_isAcceptedBy_118 : decode cX6_isAcceptedBy 118 = .ok (.iconst 0, 1) := by decide +kernel
theorem dX6_isAcceptedBy_119 : decode cX6_isAcceptedBy 119 = .ok (.ireturn, 1) := by decide +kernel
theorem dX6_isAcceptedBy_120 : decode cX6_isAcceptedBy 120 = .ok (.iload_n 2, 1) := by decide +kernel
theorem dX6_isAcceptedBy_121 : decode cX6_isAcceptedBy 121 = .ok (.ifCond .eq 12, 3) := by decide +kernel
theorem dX6_isAcceptedBy_124 : decode cX6_isAcceptedBy 124 = .ok (.iload 4, 2) := by decide +kernel
theorem dX6_isAcceptedBy_126 : decode cX6_isAcceptedBy 126 = .ok (.ifCond .ne 7, 3) := by decide +kernel
theorem dX6_isAcceptedBy_129 : decode cX6_isAcceptedBy 129 = .ok (.iconst 1, 1) := by decide +kernel
theorem dX6_isAcceptedBy_130 : decode cX6_isAcceptedBy 130 = .ok (.goto 4, 3) := by decide +kernel
theorem dX6_isAcceptedBy_133 : decode cX6_isAcceptedBy 133 = .ok (.iconst 0, 1) := by decide +kernel
theorem dX6_isAcceptedBy_134 : decode cX6_isAcceptedBy 134 = .ok (.istore_n 2, 1) := by decide +kernel
theorem dX6_isAcceptedBy_135 : decode cX6_isAcceptedBy 135 = .ok (.iinc 3 (-1), 3) := by decide +kernel
theorem dX6_isAcceptedBy_138 : decode cX6_isAcceptedBy 138 = .ok (.goto (-123), 3) := by decide +kernel
theorem dX6_isAcceptedBy_141 : decode cX6_isAcceptedBy 141 = .ok (.iconst 1, 1) := by decide +kernel
theorem dX6_isAcceptedBy_142 : decode cX6_isAcceptedBy 142 = .ok (.ireturn, 1) := by decide +kernel
theorem dX6_isAccepted_0 : decode cX6_isAccepted 0 = .ok (.aload_n 0, 1) := by decide +kernel
theorem dX6_isAccepted_1 : decode cX6_isAccepted 1 = .ok (.iload_n 1, 1) := by decide +kernel
theorem dX6_isAccepted_2 : decode cX6_isAccepted 2 = .ok (.invokestatic 127, 3) := by decide +kernel
theorem dX6_isAccepted_5 : decode cX6_isAccepted 5 = .ok (.ifCond .ne 7, 3) := by decide +kernel
theorem dX6_isAccepted_8 : decode cX6_isAccepted 8 = .ok (.iconst 1, 1) := by decide +kernel
theorem dX6_isAccepted_9 : decode cX6_isAccepted 9 = .ok (.goto 18, 3) := by decide +kernel
theorem dX6_isAccepted_12 : decode cX6_isAccepted 12 = .ok (.aload_n 0, 1) := by decide +kernel
theorem dX6_isAccepted_13 : decode cX6_isAccepted 13 = .ok (.getfield 29, 3) := by decide +kernel
theorem dX6_isAccepted_16 : decode cX6_isAccepted 16 = .ok (.bipush 36, 2) := by decide +kernel
theorem dX6_isAccepted_18 : decode cX6_isAccepted 18 = .ok (.iaload, 1) := by decide +kernel
theorem dX6_isAccepted_19 : decode cX6_isAccepted 19 = .ok (.ifCond .ne 7, 3) := by decide +kernel
theorem dX6_isAccepted_22 : decode cX6_isAccepted 22 = .ok (.iconst 2, 1) := by decide +kernel
theorem dX6_isAccepted_23 : decode cX6_isAccepted 23 = .ok (.goto 4, 3) := by decide +kernel
theorem dX6_isAccepted_26 : decode cX6_isAccepted 26 = .ok (.iconst 0, 1) := by decide +kernel
theorem dX6_isAccepted_27 : decode cX6_isAccepted 27 = .ok (.invokevirtual 102, 3) := by decide +kernel
theorem dX6_isAccepted_30 : decode cX6_isAccepted 30 = .ok (.ifCond .eq 15, 3) := by decide +kernel
theorem dX6_isAccepted_33 : decode cX6_isAccepted 33 = .ok (.aload_n 0, 1) := by decide +kernel
theorem dX6_isAccepted_34 : decode cX6_isAccepted 34 = .ok (.iload_n 1, 1) := by decide +kernel
theorem dX6_isAccepted_35 : decode cX6_isAccepted 35 = .ok (.invokevirtual 130, 3) := by decide +kernel
theorem dX6_isAccepted_38 : decode cX6_isAccepted 38 = .ok (.ifCond .eq 7, 3) := by decide +kernel
theorem dX6_isAccepted_41 : decode cX6_isAccepted 41 = .ok (.iconst 1, 1) := by decide +kernel
theorem dX6_isAccepted_42 : decode cX6_isAccepted 42 = .ok (.goto 4, 3) := by decide +kernel
theorem dX6_isAccepted_45 : decode cX6_isAccepted 45 = .ok (.iconst 0, 1) := by decide +kernel
theorem dX6_isAccepted_46 : decode cX6_isAccepted 46 = .ok (.ireturn, 1) := by decide +kernel
theorem dX6_likeVersion_0 : decode cX6_likeVersion 0 = .ok (.iconst 0, 1) := by decide +kernel
theorem dX6_likeVersion_1 : decode cX6_likeVersion 1 = .ok (.istore_n 2, 1) := by decide +kernel
theorem dX6_likeVersion_2 : decode cX6_likeVersion 2 = .ok (.iload_n 2, 1) := by decide +kernel
theorem dX6_likeVersion_3 : decode cX6_likeVersion 3 = .ok (.aload_n 0, 1) := by decide +kernel
theorem dX6_likeVersion_4 : decode cX6_likeVersion 4 = .ok (.getfield 44, 3) := by decide +kernel
theorem dX6_likeVersion_7 : decode cX6_likeVersion 7 = .ok (.iload_n 1, 1) := by decide +kernel
theorem dX6_likeVersion_8 : decode cX6_likeVersion 8 = .ok (.iaload, 1) := by decide +kernel
theorem dX6_likeVersion_9 : decode cX6_likeVersion 9 = .ok (.if_icmp .ge 38, 3) := by decide +kernel
theorem dX6_likeVersion_12 : decode cX6_likeVersion 12 = .ok (.aload_n 0, 1) := by decide +kernel
theorem dX6_likeVersion_13 : decode cX6_likeVersion 13 = .ok (.iload_n 1, 1) := by decide +kernel
theorem dX6_likeVersion_14 : decode cX6_likeVersion 14 = .ok (.iload_n 2, 1) := by decide +kernel
theorem dX6_likeVersion_15 : decode cX6_likeVersion 15 = .ok (.invokevirtual 87, 3) := by decide +kernel
theorem dX6_likeVersion_18 : decode cX6_likeVersion 18 = .ok (.ifCond .eq 23, 3) := by decide +kernel
theorem dX6_likeVersion_21 : decode cX6_likeVersion 21 = .ok (.aload_n 0, 1) := by decide +kernel
theorem dX6_likeVersion_22 : decode cX6_likeVersion 22 = .ok (.aload_n 0, 1) := by decide +kernel
theorem dX6_likeVersion_23 : decode cX6_likeVersion 23 = .ok (.getfield 38, 3) := by decide +kernel
theorem dX6_likeVersion_26 : decode cX6_likeVersion 26 = .ok (.bipush 6, 2) := by decide +kernel
theorem dX6_likeVersion_28 : decode cX6_likeVersion 28 = .ok (.iload_n 1, 1) := by decide +kernel
theorem dX6_likeVersion_29 : decode cX6_likeVersion 29 = .ok (.imul, 1) := by decide +kernel
theorem dX6_likeVersion_30 : decode cX6_likeVersion 30 = .ok (.iload_n 2, 1) := by decide +kernel
theorem dX6_likeVersion_31 : decode cX6_likeVersion 31 = .ok (.iadd, 1) := by decide +kernel
theorem dX6_likeVersion_32 : decode cX6_likeVersion 32 = .ok (.iaload, 1) := by decide +kernel
theorem dX6_likeVersion_33 : decode cX6_likeVersion 33 = .ok (.invokevirtual 133, 3) := by decide +kernel
theorem dX6_likeVersion_36 : decode cX6_likeVersion 36 = .ok (.ifCond .eq 5, 3) := by decide +kernel
theorem dX6_likeVersion_39 : decode cX6_likeVersion 39 = .ok (.iload_n 2, 1) := by decide +kernel
theorem dX6_likeVersion_40 : decode cX6_likeVersion 40 = .ok (.ireturn, 1) := by decide +kernel
theorem dX6_likeVersion_41 : decode cX6_likeVersion 41 = .ok (.iinc 2 1, 3) := by decide +kernel
theorem dX6_likeVersion_44 : decode cX6_likeVersion 44 = .ok (.goto (-42), 3) := by decide +kernel
theorem dX6_likeVersion_47 : decode cX6_likeVersion 47 = .ok (.iconst (-1), 1) := by decide +kernel
theorem dX6_likeVersion_48 : decode cX6_likeVersion 48 = .ok (.ireturn, 1) := by decide +kernel
theorem dX6_numbered_0 : decode cX6_numbered 0 = .ok (.iconst 0, 1) := by decide +kernel
theorem dX6_numbered_1 : decode cX6_numbered 1 = .ok (.istore_n 1, 1) := by decide +kernel
theorem dX6_numbered_2 : decode cX6_numbered 2 = .ok (.iload_n 1, 1) := by decide +kernel
theorem dX6_numbered_3 : decode cX6_numbered 3 = .ok (.aload_n 0, 1) := by decide +kernel
theorem dX6_numbered_4 : decode cX6_numbered 4 = .ok (.getfield 118, 3) := by decide +kernel
theorem dX6_numbered_7 : decode cX6_numbered 7 = .ok (.if_icmp .ge 19, 3) := by decide +kernel
theorem dX6_numbered_10 : decode cX6_numbered 10 = .ok (.aload_n 0, 1) := by decide +kernel
theorem dX6_numbered_11 : decode cX6_numbered 11 = .ok (.iload_n 1, 1) := by decide +kernel
theorem dX6_numbered_12 : decode cX6_numbered 12 = .ok (.invokevirtual 133, 3) := by decide +kernel
theorem dX6_numbered_15 : decode cX6_numbered 15 = .ok (.ifCond .eq 5, 3) := by decide +kernel
theorem dX6_numbered_18 : decode cX6_numbered 18 = .ok (.iload_n 1, 1) := by decide +kernel
theorem dX6_numbered_19 : decode cX6_numbered 19 = .ok (.ireturn, 1) := by decide +kernel
theorem dX6_numbered_20 : decode cX6_numbered 20 = .ok (.iinc 1 1, 3) := by decide +kernel
theorem dX6_numbered_23 : decode cX6_numbered 23 = .ok (.goto (-21), 3) := by decide +kernel
theorem dX6_numbered_26 : decode cX6_numbered 26 = .ok (.iconst 0, 1) := by decide +kernel
theorem dX6_numbered_27 : decode cX6_numbered 27 = .ok (.istore_n 1, 1) := by decide +kernel
theorem dX6_numbered_28 : decode cX6_numbered 28 = .ok (.iload_n 1, 1) := by decide +kernel
theorem dX6_numbered_29 : decode cX6_numbered 29 = .ok (.iconst 5, 1) := by decide +kernel
theorem dX6_numbered_30 : decode cX6_numbered 30 = .ok (.if_icmp .ge 96, 3) := by decide +kernel
theorem dX6_numbered_33 : decode cX6_numbered 33 = .ok (.iconst 5, 1) := by decide +kernel
theorem dX6_numbered_34 : decode cX6_numbered 34 = .ok (.aload_n 0, 1) := by decide +kernel
theorem dX6_numbered_35 : decode cX6_numbered 35 = .ok (.getfield 118, 3) := by decide +kernel
theorem dX6_numbered_38 : decode cX6_numbered 38 = .ok (.imul, 1) := by decide +kernel
theorem dX6_numbered_39 : decode cX6_numbered 39 = .ok (.iload_n 1, 1) := by decide +kernel
theorem dX6_numbered_40 : decode cX6_numbered 40 = .ok (.iadd, 1) := by decide +kernel
theorem dX6_numbered_41 : decode cX6_numbered 41 = .ok (.istore_n 2, 1) := by decide +kernel
theorem dX6_numbered_42 : decode cX6_numbered 42 = .ok (.sipush 180, 3) := by decide +kernel
theorem dX6_numbered_45 : decode cX6_numbered 45 = .ok (.iload_n 1, 1) := by decide +kernel
theorem dX6_numbered_46 : decode cX6_numbered 46 = .ok (.iadd, 1) := by decide +kernel
theorem dX6_numbered_47 : decode cX6_numbered 47 = .ok (.istore_n 3, 1) := by decide +kernel
theorem dX6_numbered_48 : decode cX6_numbered 48 = .ok (.aload_n 0, 1) := by decide +kernel
theorem dX6_numbered_49 : decode cX6_numbered 49 = .ok (.getfield 7, 3) := by decide +kernel
theorem dX6_numbered_52 : decode cX6_numbered 52 = .ok (.iload_n 2, 1) := by decide +kernel
theorem dX6_numbered_53 : decode cX6_numbered 53 = .ok (.aload_n 0, 1) := by decide +kernel
theorem dX6_numbered_54 : decode cX6_numbered 54 = .ok (.getfield 7, 3) := by decide +kernel
theorem dX6_numbered_57 : decode cX6_numbered 57 = .ok (.iload_n 3, 1) := by decide +kernel
theorem dX6_numbered_58 : decode cX6_numbered 58 = .ok (.iaload, 1) := by decide +kernel
theorem dX6_numbered_59 : decode cX6_numbered 59 = .ok (.iastore, 1) := by decide +kernel
theorem dX6_numbered_60 : decode cX6_numbered 60 = .ok (.aload_n 0, 1) := by decide +kernel
theorem dX6_numbered_61 : decode cX6_numbered 61 = .ok (.getfield 13, 3) := by decide +kernel
theorem dX6_numbered_64 : decode cX6_numbered 64 = .ok (.iload_n 2, 1) := by decide +kernel
theorem dX6_numbered_65 : decode cX6_numbered 65 = .ok (.aload_n 0, 1) := by decide +kernel
theorem dX6_numbered_66 : decode cX6_numbered 66 = .ok (.getfield 13, 3) := by decide +kernel
theorem dX6_numbered_69 : decode cX6_numbered 69 = .ok (.iload_n 3, 1) := by decide +kernel
theorem dX6_numbered_70 : decode cX6_numbered 70 = .ok (.iaload, 1) := by decide +kernel
theorem dX6_numbered_71 : decode cX6_numbered 71 = .ok (.iastore, 1) := by decide +kernel
theorem dX6_numbered_72 : decode cX6_numbered 72 = .ok (.aload_n 0, 1) := by decide +kernel
theorem dX6_numbered_73 : decode cX6_numbered 73 = .ok (.getfield 16, 3) := by decide +kernel
theorem dX6_numbered_76 : decode cX6_numbered 76 = .ok (.iload_n 2, 1) := by decide +kernel
theorem dX6_numbered_77 : decode cX6_numbered 77 = .ok (.aload_n 0, 1) := by decide +kernel
theorem dX6_numbered_78 : decode cX6_numbered 78 = .ok (.getfield 16, 3) := by decide +kernel
theorem dX6_numbered_81 : decode cX6_numbered 81 = .ok (.iload_n 3, 1) := by decide +kernel
theorem dX6_numbered_82 : decode cX6_numbered 82 = .ok (.iaload, 1) := by decide +kernel
theorem dX6_numbered_83 : decode cX6_numbered 83 = .ok (.iastore, 1) := by decide +kernel
theorem dX6_numbered_84 : decode cX6_numbered 84 = .ok (.aload_n 0, 1) := by decide +kernel
theorem dX6_numbered_85 : decode cX6_numbered 85 = .ok (.getfield 19, 3) := by decide +kernel
theorem dX6_numbered_88 : decode cX6_numbered 88 = .ok (.iload_n 2, 1) := by decide +kernel
theorem dX6_numbered_89 : decode cX6_numbered 89 = .ok (.aload_n 0, 1) := by decide +kernel
theorem dX6_numbered_90 : decode cX6_numbered 90 = .ok (.getfield 19, 3) := by decide +kernel
theorem dX6_numbered_93 : decode cX6_numbered 93 = .ok (.iload_n 3, 1) := by decide +kernel
theorem dX6_numbered_94 : decode cX6_numbered 94 = .ok (.iaload, 1) := by decide +kernel
theorem dX6_numbered_95 : decode cX6_numbered 95 = .ok (.iastore, 1) := by decide +kernel
theorem dX6_numbered_96 : decode cX6_numbered 96 = .ok (.aload_n 0, 1) := by decide +kernel
theorem dX6_numbered_97 : decode cX6_numbered 97 = .ok (.getfield 22, 3) := by decide +kernel
theorem dX6_numbered_100 : decode cX6_numbered 100 = .ok (.iload_n 2, 1) := by decide +kernel
theorem dX6_numbered_101 : decode cX6_numbered 101 = .ok (.aload_n 0, 1) := by decide +kernel
theorem dX6_numbered_102 : decode cX6_numbered 102 = .ok (.getfield 22, 3) := by decide +kernel
theorem dX6_numbered_105 : decode cX6_numbered 105 = .ok (.iload_n 3, 1) := by decide +kernel
theorem dX6_numbered_106 : decode cX6_numbered 106 = .ok (.baload, 1) := by decide +kernel
theorem dX6_numbered_107 : decode cX6_numbered 107 = .ok (.bastore, 1) := by decide +kernel
theorem dX6_numbered_108 : decode cX6_numbered 108 = .ok (.aload_n 0, 1) := by decide +kernel
theorem dX6_numbered_109 : decode cX6_numbered 109 = .ok (.getfield 26, 3) := by decide +kernel
theorem dX6_numbered_112 : decode cX6_numbered 112 = .ok (.iload_n 2, 1) := by decide +kernel
theorem dX6_numbered_113 : decode cX6_numbered 113 = .ok (.aload_n 0, 1) := by decide +kernel
theorem dX6_numbered_114 : decode cX6_numbered 114 = .ok (.getfield 26, 3) := by decide +kernel
theorem dX6_numbered_117 : decode cX6_numbered 117 = .ok (.iload_n 3, 1) := by decide +kernel
theorem dX6_numbered_118 : decode cX6_numbered 118 = .ok (.iaload, 1) := by decide +kernel
theorem dX6_numbered_119 : decode cX6_numbered 119 = .ok (.iastore, 1) := by decide +kernel
theorem dX6_numbered_120 : decode cX6_numbered 120 = .ok (.iinc 1 1, 3) := by decide +kernel
theorem dX6_numbered_123 : decode cX6_numbered 123 = .ok (.goto (-95), 3) := by decide +kernel
theorem dX6_numbered_126 : decode cX6_numbered 126 = .ok (.aload_n 0, 1) := by decide +kernel
theorem dX6_numbered_127 : decode cX6_numbered 127 = .ok (.getfield 29, 3) := by decide +kernel
theorem dX6_numbered_130 : decode cX6_numbered 130 = .ok (.aload_n 0, 1) := by decide +kernel
theorem dX6_numbered_131 : decode cX6_numbered 131 = .ok (.getfield 118, 3) := by decide +kernel
theorem dX6_numbered_134 : decode cX6_numbered 134 = .ok (.aload_n 0, 1) := by decide +kernel
end
section
theorem dX6_numbered_135 : decode cX6_numbered 135 = .ok (.getfield 29, 3) := by decide +kernel
theorem dX6_numbered_138 : decode cX6_numbered 138 = .ok (.bipush 36, 2) := by decide +kernel
theorem dX6_numbered_140 : decode cX6_numbered 140 = .ok (.iaload, 1) := by decide +kernel
theorem dX6_numbered_141 : decode cX6_numbered 141 = .ok (.iastore, 1) := by decide +kernel
theorem dX6_numbered_142 : decode cX6_numbered 142 = .ok (.aload_n 0, 1) := by decide +kernel
theorem dX6_numbered_143 : decode cX6_numbered 143 = .ok (.getfield 32, 3) := by decide +kernel
theorem dX6_numbered_146 : decode cX6_numbered 146 = .ok (.aload_n 0, 1) := by decide +kernel
theorem dX6_numbered_147 : decode cX6_numbered 147 = .ok (.getfield 118, 3) := by decide +kernel
theorem dX6_numbered_150 : decode cX6_numbered 150 = .ok (.aload_n 0, 1) := by decide +kernel
theorem dX6_numbered_151 : decode cX6_numbered 151 = .ok (.getfield 32, 3) := by decide +kernel
theorem dX6_numbered_154 : decode cX6_numbered 154 = .ok (.bipush 36, 2) := by decide +kernel
theorem dX6_numbered_156 : decode cX6_numbered 156 = .ok (.iaload, 1) := by decide +kernel
theorem dX6_numbered_157 : decode cX6_numbered 157 = .ok (.iastore, 1) := by decide +kernel
theorem dX6_numbered_158 : decode cX6_numbered 158 = .ok (.aload_n 0, 1) := by decide +kernel
theorem dX6_numbered_159 : decode cX6_numbered 159 = .ok (.dup, 1) := by decide +kernel
theorem dX6_numbered_160 : decode cX6_numbered 160 = .ok (.getfield 118, 3) := by decide +kernel
theorem dX6_numbered_163 : decode cX6_numbered 163 = .ok (.iconst 1, 1) := by decide +kernel
theorem dX6_numbered_164 : decode cX6_numbered 164 = .ok (.iadd, 1) := by decide +kernel
theorem dX6_numbered_165 : decode cX6_numbered 165 = .ok (.putfield 118, 3) := by decide +kernel
theorem dX6_numbered_168 : decode cX6_numbered 168 = .ok (.aload_n 0, 1) := by decide +kernel
theorem dX6_numbered_169 : decode cX6_numbered 169 = .ok (.getfield 118, 3) := by decide +kernel
theorem dX6_numbered_172 : decode cX6_numbered 172 = .ok (.iconst 1, 1) := by decide +kernel
theorem dX6_numbered_173 : decode cX6_numbered 173 = .ok (.isub, 1) := by decide +kernel
theorem dX6_numbered_174 : decode cX6_numbered 174 = .ok (.ireturn, 1) := by decide +kernel
theorem dX6_errorOfRegister_0 : decode cX6_errorOfRegister 0 = .ok (.iload_n 1, 1) := by decide +kernel
theorem dX6_errorOfRegister_1 : decode cX6_errorOfRegister 1 = .ok (.invokestatic 127, 3) := by decide +kernel
theorem dX6_errorOfRegister_4 : decode cX6_errorOfRegister 4 = .ok (.ifCond .ne 5, 3) := by decide +kernel
theorem dX6_errorOfRegister_7 : decode cX6_errorOfRegister 7 = .ok (.iconst 1, 1) := by decide +kernel
theorem dX6_errorOfRegister_8 : decode cX6_errorOfRegister 8 = .ok (.ireturn, 1) := by decide +kernel
theorem dX6_errorOfRegister_9 : decode cX6_errorOfRegister 9 = .ok (.aload_n 0, 1) := by decide +kernel
theorem dX6_errorOfRegister_10 : decode cX6_errorOfRegister 10 = .ok (.getfield 29, 3) := by decide +kernel
theorem dX6_errorOfRegister_13 : decode cX6_errorOfRegister 13 = .ok (.bipush 36, 2) := by decide +kernel
theorem dX6_errorOfRegister_15 : decode cX6_errorOfRegister 15 = .ok (.iaload, 1) := by decide +kernel
theorem dX6_errorOfRegister_16 : decode cX6_errorOfRegister 16 = .ok (.ifCond .ne 5, 3) := by decide +kernel
theorem dX6_errorOfRegister_19 : decode cX6_errorOfRegister 19 = .ok (.iconst 2, 1) := by decide +kernel
theorem dX6_errorOfRegister_20 : decode cX6_errorOfRegister 20 = .ok (.ireturn, 1) := by decide +kernel
theorem dX6_errorOfRegister_21 : decode cX6_errorOfRegister 21 = .ok (.aload_n 0, 1) := by decide +kernel
theorem dX6_errorOfRegister_22 : decode cX6_errorOfRegister 22 = .ok (.iload_n 1, 1) := by decide +kernel
theorem dX6_errorOfRegister_23 : decode cX6_errorOfRegister 23 = .ok (.invokevirtual 136, 3) := by decide +kernel
theorem dX6_errorOfRegister_26 : decode cX6_errorOfRegister 26 = .ok (.iconst (-1), 1) := by decide +kernel
theorem dX6_errorOfRegister_27 : decode cX6_errorOfRegister 27 = .ok (.if_icmp .ne 26, 3) := by decide +kernel
theorem dX6_errorOfRegister_30 : decode cX6_errorOfRegister 30 = .ok (.aload_n 0, 1) := by decide +kernel
theorem dX6_errorOfRegister_31 : decode cX6_errorOfRegister 31 = .ok (.getfield 44, 3) := by decide +kernel
theorem dX6_errorOfRegister_34 : decode cX6_errorOfRegister 34 = .ok (.iload_n 1, 1) := by decide +kernel
theorem dX6_errorOfRegister_35 : decode cX6_errorOfRegister 35 = .ok (.iaload, 1) := by decide +kernel
theorem dX6_errorOfRegister_36 : decode cX6_errorOfRegister 36 = .ok (.bipush 6, 2) := by decide +kernel
theorem dX6_errorOfRegister_38 : decode cX6_errorOfRegister 38 = .ok (.if_icmp .eq 11, 3) := by decide +kernel
theorem dX6_errorOfRegister_41 : decode cX6_errorOfRegister 41 = .ok (.aload_n 0, 1) := by decide +kernel
theorem dX6_errorOfRegister_42 : decode cX6_errorOfRegister 42 = .ok (.iload_n 1, 1) := by decide +kernel
theorem dX6_errorOfRegister_43 : decode cX6_errorOfRegister 43 = .ok (.invokevirtual 130, 3) := by decide +kernel
theorem dX6_errorOfRegister_46 : decode cX6_errorOfRegister 46 = .ok (.ifCond .ne 7, 3) := by decide +kernel
theorem dX6_errorOfRegister_49 : decode cX6_errorOfRegister 49 = .ok (.iconst 2, 1) := by decide +kernel
theorem dX6_errorOfRegister_50 : decode cX6_errorOfRegister 50 = .ok (.goto 4, 3) := by decide +kernel
theorem dX6_errorOfRegister_53 : decode cX6_errorOfRegister 53 = .ok (.iconst 0, 1) := by decide +kernel
theorem dX6_errorOfRegister_54 : decode cX6_errorOfRegister 54 = .ok (.ireturn, 1) := by decide +kernel
theorem dX6_register_0 : decode cX6_register 0 = .ok (.aload_n 0, 1) := by decide +kernel
theorem dX6_register_1 : decode cX6_register 1 = .ok (.aload_n 0, 1) := by decide +kernel
theorem dX6_register_2 : decode cX6_register 2 = .ok (.iload_n 1, 1) := by decide +kernel
theorem dX6_register_3 : decode cX6_register 3 = .ok (.invokevirtual 139, 3) := by decide +kernel
theorem dX6_register_6 : decode cX6_register 6 = .ok (.invokevirtual 102, 3) := by decide +kernel
theorem dX6_register_9 : decode cX6_register 9 = .ok (.ifCond .ne 5, 3) := by decide +kernel
theorem dX6_register_12 : decode cX6_register 12 = .ok (.iconst 0, 1) := by decide +kernel
theorem dX6_register_13 : decode cX6_register 13 = .ok (.ireturn, 1) := by decide +kernel
theorem dX6_register_14 : decode cX6_register 14 = .ok (.aload_n 0, 1) := by decide +kernel
theorem dX6_register_15 : decode cX6_register 15 = .ok (.iload_n 1, 1) := by decide +kernel
theorem dX6_register_16 : decode cX6_register 16 = .ok (.invokevirtual 136, 3) := by decide +kernel
theorem dX6_register_19 : decode cX6_register 19 = .ok (.istore_n 2, 1) := by decide +kernel
theorem dX6_register_20 : decode cX6_register 20 = .ok (.iload_n 2, 1) := by decide +kernel
theorem dX6_register_21 : decode cX6_register 21 = .ok (.iconst (-1), 1) := by decide +kernel
theorem dX6_register_22 : decode cX6_register 22 = .ok (.if_icmp .ne 47, 3) := by decide +kernel
theorem dX6_register_25 : decode cX6_register 25 = .ok (.aload_n 0, 1) := by decide +kernel
theorem dX6_register_26 : decode cX6_register 26 = .ok (.getfield 44, 3) := by decide +kernel
theorem dX6_register_29 : decode cX6_register 29 = .ok (.iload_n 1, 1) := by decide +kernel
theorem dX6_register_30 : decode cX6_register 30 = .ok (.iaload, 1) := by decide +kernel
theorem dX6_register_31 : decode cX6_register 31 = .ok (.istore_n 2, 1) := by decide +kernel
theorem dX6_register_32 : decode cX6_register 32 = .ok (.aload_n 0, 1) := by decide +kernel
theorem dX6_register_33 : decode cX6_register 33 = .ok (.getfield 38, 3) := by decide +kernel
theorem dX6_register_36 : decode cX6_register 36 = .ok (.bipush 6, 2) := by decide +kernel
theorem dX6_register_38 : decode cX6_register 38 = .ok (.iload_n 1, 1) := by decide +kernel
theorem dX6_register_39 : decode cX6_register 39 = .ok (.imul, 1) := by decide +kernel
theorem dX6_register_40 : decode cX6_register 40 = .ok (.iload_n 2, 1) := by decide +kernel
theorem dX6_register_41 : decode cX6_register 41 = .ok (.iadd, 1) := by decide +kernel
theorem dX6_register_42 : decode cX6_register 42 = .ok (.aload_n 0, 1) := by decide +kernel
theorem dX6_register_43 : decode cX6_register 43 = .ok (.invokevirtual 142, 3) := by decide +kernel
theorem dX6_register_46 : decode cX6_register 46 = .ok (.iastore, 1) := by decide +kernel
theorem dX6_register_47 : decode cX6_register 47 = .ok (.aload_n 0, 1) := by decide +kernel
theorem dX6_register_48 : decode cX6_register 48 = .ok (.getfield 41, 3) := by decide +kernel
theorem dX6_register_51 : decode cX6_register 51 = .ok (.bipush 6, 2) := by decide +kernel
theorem dX6_register_53 : decode cX6_register 53 = .ok (.iload_n 1, 1) := by decide +kernel
theorem dX6_register_54 : decode cX6_register 54 = .ok (.imul, 1) := by decide +kernel
theorem dX6_register_55 : decode cX6_register 55 = .ok (.iload_n 2, 1) := by decide +kernel
theorem dX6_register_56 : decode cX6_register 56 = .ok (.iadd, 1) := by decide +kernel
theorem dX6_register_57 : decode cX6_register 57 = .ok (.iconst 1, 1) := by decide +kernel
theorem dX6_register_58 : decode cX6_register 58 = .ok (.iastore, 1) := by decide +kernel
theorem dX6_register_59 : decode cX6_register 59 = .ok (.aload_n 0, 1) := by decide +kernel
theorem dX6_register_60 : decode cX6_register 60 = .ok (.getfield 44, 3) := by decide +kernel
theorem dX6_register_63 : decode cX6_register 63 = .ok (.iload_n 1, 1) := by decide +kernel
theorem dX6_register_64 : decode cX6_register 64 = .ok (.dup2, 1) := by decide +kernel
theorem dX6_register_65 : decode cX6_register 65 = .ok (.iaload, 1) := by decide +kernel
theorem dX6_register_66 : decode cX6_register 66 = .ok (.iconst 1, 1) := by decide +kernel
theorem dX6_register_67 : decode cX6_register 67 = .ok (.iadd, 1) := by decide +kernel
theorem dX6_register_68 : decode cX6_register 68 = .ok (.iastore, 1) := by decide +kernel
theorem dX6_register_69 : decode cX6_register 69 = .ok (.aload_n 0, 1) := by decide +kernel
theorem dX6_register_70 : decode cX6_register 70 = .ok (.invokevirtual 109, 3) := by decide +kernel
theorem dX6_register_73 : decode cX6_register 73 = .ok (.iload_n 2, 1) := by decide +kernel
theorem dX6_register_74 : decode cX6_register 74 = .ok (.ireturn, 1) := by decide +kernel
theorem dX6_setMode_0 : decode cX6_setMode 0 = .ok (.aload_n 0, 1) := by decide +kernel
theorem dX6_setMode_1 : decode cX6_setMode 1 = .ok (.iload_n 1, 1) := by decide +kernel
theorem dX6_setMode_2 : decode cX6_setMode 2 = .ok (.invokestatic 127, 3) := by decide +kernel
theorem dX6_setMode_5 : decode cX6_setMode 5 = .ok (.ifCond .eq 16, 3) := by decide +kernel
theorem dX6_setMode_8 : decode cX6_setMode 8 = .ok (.iload_n 2, 1) := by decide +kernel
theorem dX6_setMode_9 : decode cX6_setMode 9 = .ok (.iconst 0, 1) := by decide +kernel
theorem dX6_setMode_10 : decode cX6_setMode 10 = .ok (.iconst 3, 1) := by decide +kernel
theorem dX6_setMode_11 : decode cX6_setMode 11 = .ok (.invokestatic 75, 3) := by decide +kernel
theorem dX6_setMode_14 : decode cX6_setMode 14 = .ok (.ifCond .eq 7, 3) := by decide +kernel
theorem dX6_setMode_17 : decode cX6_setMode 17 = .ok (.iconst 0, 1) := by decide +kernel
theorem dX6_setMode_18 : decode cX6_setMode 18 = .ok (.goto 4, 3) := by decide +kernel
theorem dX6_setMode_21 : decode cX6_setMode 21 = .ok (.iconst 1, 1) := by decide +kernel
theorem dX6_setMode_22 : decode cX6_setMode 22 = .ok (.invokevirtual 102, 3) := by decide +kernel
theorem dX6_setMode_25 : decode cX6_setMode 25 = .ok (.ifCond .ne 5, 3) := by decide +kernel
theorem dX6_setMode_28 : decode cX6_setMode 28 = .ok (.iconst 0, 1) := by decide +kernel
theorem dX6_setMode_29 : decode cX6_setMode 29 = .ok (.ireturn, 1) := by decide +kernel
theorem dX6_setMode_30 : decode cX6_setMode 30 = .ok (.aload_n 0, 1) := by decide +kernel
theorem dX6_setMode_31 : decode cX6_setMode 31 = .ok (.getfield 47, 3) := by decide +kernel
theorem dX6_setMode_34 : decode cX6_setMode 34 = .ok (.iload_n 1, 1) := by decide +kernel
theorem dX6_setMode_35 : decode cX6_setMode 35 = .ok (.iaload, 1) := by decide +kernel
theorem dX6_setMode_36 : decode cX6_setMode 36 = .ok (.istore 4, 2) := by decide +kernel
theorem dX6_setMode_38 : decode cX6_setMode 38 = .ok (.aload_n 0, 1) := by decide +kernel
theorem dX6_setMode_39 : decode cX6_setMode 39 = .ok (.getfield 47, 3) := by decide +kernel
theorem dX6_setMode_42 : decode cX6_setMode 42 = .ok (.iload_n 1, 1) := by decide +kernel
theorem dX6_setMode_43 : decode cX6_setMode 43 = .ok (.iload_n 2, 1) := by decide +kernel
theorem dX6_setMode_44 : decode cX6_setMode 44 = .ok (.iastore, 1) := by decide +kernel
theorem dX6_setMode_45 : decode cX6_setMode 45 = .ok (.aload_n 0, 1) := by decide +kernel
theorem dX6_setMode_46 : decode cX6_setMode 46 = .ok (.getfield 50, 3) := by decide +kernel
theorem dX6_setMode_49 : decode cX6_setMode 49 = .ok (.iload_n 1, 1) := by decide +kernel
theorem dX6_setMode_50 : decode cX6_setMode 50 = .ok (.iload_n 3, 1) := by decide +kernel
theorem dX6_setMode_51 : decode cX6_setMode 51 = .ok (.bastore, 1) := by decide +kernel
theorem dX6_setMode_52 : decode cX6_setMode 52 = .ok (.iload 4, 2) := by decide +kernel
theorem dX6_setMode_54 : decode cX6_setMode 54 = .ok (.ireturn, 1) := by decide +kernel
theorem dX6_refers_0 : decode cX6_refers 0 = .ok (.iconst 0, 1) := by decide +kernel
theorem dX6_refers_1 : decode cX6_refers 1 = .ok (.istore_n 3, 1) := by decide +kernel
theorem dX6_refers_2 : decode cX6_refers 2 = .ok (.iload_n 3, 1) := by decide +kernel
theorem dX6_refers_3 : decode cX6_refers 3 = .ok (.aload_n 0, 1) := by decide +kernel
theorem dX6_refers_4 : decode cX6_refers 4 = .ok (.getfield 29, 3) := by decide +kernel
theorem dX6_refers_7 : decode cX6_refers 7 = .ok (.iload_n 1, 1) := by decide +kernel
theorem dX6_refers_8 : decode cX6_refers 8 = .ok (.iaload, 1) := by decide +kernel
theorem dX6_refers_9 : decode cX6_refers 9 = .ok (.if_icmp .ge 39, 3) := by decide +kernel
theorem dX6_refers_12 : decode cX6_refers 12 = .ok (.aload_n 0, 1) := by decide +kernel
theorem dX6_refers_13 : decode cX6_refers 13 = .ok (.getfield 13, 3) := by decide +kernel
theorem dX6_refers_16 : decode cX6_refers 16 = .ok (.iconst 5, 1) := by decide +kernel
theorem dX6_refers_17 : decode cX6_refers 17 = .ok (.iload_n 1, 1) := by decide +kernel
theorem dX6_refers_18 : decode cX6_refers 18 = .ok (.imul, 1) := by decide +kernel
theorem dX6_refers_19 : decode cX6_refers 19 = .ok (.iload_n 3, 1) := by decide +kernel
theorem dX6_refers_20 : decode cX6_refers 20 = .ok (.iadd, 1) := by decide +kernel
theorem dX6_refers_21 : decode cX6_refers 21 = .ok (.iaload, 1) := by decide +kernel
theorem dX6_refers_22 : decode cX6_refers 22 = .ok (.iconst 4, 1) := by decide +kernel
theorem dX6_refers_23 : decode cX6_refers 23 = .ok (.if_icmp .ne 19, 3) := by decide +kernel
theorem dX6_refers_26 : decode cX6_refers 26 = .ok (.aload_n 0, 1) := by decide +kernel
theorem dX6_refers_27 : decode cX6_refers 27 = .ok (.getfield 16, 3) := by decide +kernel
theorem dX6_refers_30 : decode cX6_refers 30 = .ok (.iconst 5, 1) := by decide +kernel
theorem dX6_refers_31 : decode cX6_refers 31 = .ok (.iload_n 1, 1) := by decide +kernel
theorem dX6_refers_32 : decode cX6_refers 32 = .ok (.imul, 1) := by decide +kernel
theorem dX6_refers_33 : decode cX6_refers 33 = .ok (.iload_n 3, 1) := by decide +kernel
theorem dX6_refers_34 : decode cX6_refers 34 = .ok (.iadd, 1) := by decide +kernel
theorem dX6_refers_35 : decode cX6_refers 35 = .ok (.iaload, 1) := by decide +kernel
theorem dX6_refers_36 : decode cX6_refers 36 = .ok (.iload_n 2, 1) := by decide +kernel
theorem dX6_refers_37 : decode cX6_refers 37 = .ok (.if_icmp .ne 5, 3) := by decide +kernel
theorem dX6_refers_40 : decode cX6_refers 40 = .ok (.iconst 1, 1) := by decide +kernel
theorem dX6_refers_41 : decode cX6_refers 41 = .ok (.ireturn, 1) := by decide +kernel
theorem dX6_refers_42 : decode cX6_refers 42 = .ok (.iinc 3 1, 3) := by decide +kernel
theorem dX6_refers_45 : decode cX6_refers 45 = .ok (.goto (-43), 3) := by decide +kernel
theorem dX6_refers_48 : decode cX6_refers 48 = .ok (.iconst 0, 1) := by decide +kernel
theorem dX6_refers_49 : decode cX6_refers 49 = .ok (.ireturn, 1) := by decide +kernel
theorem dX6_isReferred_0 : decode cX6_isReferred 0 = .ok (.iconst 0, 1) := by decide +kernel
theorem dX6_isReferred_1 : decode cX6_isReferred 1 = .ok (.istore_n 2, 1) := by decide +kernel
theorem dX6_isReferred_2 : decode cX6_isReferred 2 = .ok (.iload_n 2, 1) := by decide +kernel
theorem dX6_isReferred_3 : decode cX6_isReferred 3 = .ok (.bipush 36, 2) := by decide +kernel
theorem dX6_isReferred_5 : decode cX6_isReferred 5 = .ok (.if_icmp .ge 45, 3) := by decide +kernel
theorem dX6_isReferred_8 : decode cX6_isReferred 8 = .ok (.aload_n 0, 1) := by decide +kernel
theorem dX6_isReferred_9 : decode cX6_isReferred 9 = .ok (.getfield 41, 3) := by decide +kernel
theorem dX6_isReferred_12 : decode cX6_isReferred 12 = .ok (.iload_n 2, 1) := by decide +kernel
theorem dX6_isReferred_13 : decode cX6_isReferred 13 = .ok (.iaload, 1) := by decide +kernel
theorem dX6_isReferred_14 : decode cX6_isReferred 14 = .ok (.iconst 1, 1) := by decide +kernel
theorem dX6_isReferred_15 : decode cX6_isReferred 15 = .ok (.if_icmp .eq 13, 3) := by decide +kernel
theorem dX6_isReferred_18 : decode cX6_isReferred 18 = .ok (.aload_n 0, 1) := by decide +kernel
theorem dX6_isReferred_19 : decode cX6_isReferred 19 = .ok (.getfield 41, 3) := by decide +kernel
theorem dX6_isReferred_22 : decode cX6_isReferred 22 = .ok (.iload_n 2, 1) := by decide +kernel
theorem dX6_isReferred_23 : decode cX6_isReferred 23 = .ok (.iaload, 1) := by decide +kernel
theorem dX6_isReferred_24 : decode cX6_isReferred 24 = .ok (.iconst 2, 1) := by decide +kernel
theorem dX6_isReferred_25 : decode cX6_isReferred 25 = .ok (.if_icmp .ne 19, 3) := by decide +kernel
theorem dX6_isReferred_28 : decode cX6_isReferred 28 = .ok (.aload_n 0, 1) := by decide +kernel
theorem dX6_isReferred_29 : decode cX6_isReferred 29 = .ok (.aload_n 0, 1) := by decide +kernel
theorem dX6_isReferred_30 : decode cX6_isReferred 30 = .ok (.getfield 38, 3) := by decide +kernel
theorem dX6_isReferred_33 : decode cX6_isReferred 33 = .ok (.iload_n 2, 1) := by decide +kernel
theorem dX6_isReferred_34 : decode cX6_isReferred 34 = .ok (.iaload, 1) := by decide +kernel
theorem dX6_isReferred_35 : decode cX6_isReferred 35 = .ok (.iload_n 1, 1) := by decide +kernel
theorem dX6_isReferred_36 : decode cX6_isReferred 36 = .ok (.invokevirtual 146, 3) := by decide +kernel
theorem dX6_isReferred_39 : decode cX6_isReferred 39 = .ok (.ifCond .eq 5, 3) := by decide +kernel
theorem dX6_isReferred_42 : decode cX6_isReferred 42 = .ok (.iconst 1, 1) := by decide +kernel
theorem dX6_isReferred_43 : decode cX6_isReferred 43 = .ok (.ireturn, 1) := by decide +kernel
theorem dX6_isReferred_44 : decode cX6_isReferred 44 = .ok (.iinc 2 1, 3) := by decide +kernel
theorem dX6_isReferred_47 : decode cX6_isReferred 47 = .ok (.goto (-45), 3) := by decide +kernel
theorem dX6_isReferred_50 : decode cX6_isReferred 50 = .ok (.aload_n 0, 1) := by decide +kernel
theorem dX6_isReferred_51 : decode cX6_isReferred 51 = .ok (.bipush 36, 2) := by decide +kernel
theorem dX6_isReferred_53 : decode cX6_isReferred 53 = .ok (.iload_n 1, 1) := by decide +kernel
theorem dX6_isReferred_54 : decode cX6_isReferred 54 = .ok (.invokevirtual 146, 3) := by decide +kernel
theorem dX6_isReferred_57 : decode cX6_isReferred 57 = .ok (.ireturn, 1) := by decide +kernel
theorem dX6_errorOfDelete_0 : decode cX6_errorOfDelete 0 = .ok (.iload_n 1, 1) := by decide +kernel
theorem dX6_errorOfDelete_1 : decode cX6_errorOfDelete 1 = .ok (.invokestatic 127, 3) := by decide +kernel
theorem dX6_errorOfDelete_4 : decode cX6_errorOfDelete 4 = .ok (.ifCond .ne 5, 3) := by decide +kernel
theorem dX6_errorOfDelete_7 : decode cX6_errorOfDelete 7 = .ok (.iconst 1, 1) := by decide +kernel
theorem dX6_errorOfDelete_8 : decode cX6_errorOfDelete 8 = .ok (.ireturn, 1) := by decide +kernel
theorem dX6_errorOfDelete_9 : decode cX6_errorOfDelete 9 = .ok (.aload_n 0, 1) := by decide +kernel
theorem dX6_errorOfDelete_10 : decode cX6_errorOfDelete 10 = .ok (.iload_n 1, 1) := by decide +kernel
theorem dX6_errorOfDelete_11 : decode cX6_errorOfDelete 11 = .ok (.iload_n 2, 1) := by decide +kernel
theorem dX6_errorOfDelete_12 : decode cX6_errorOfDelete 12 = .ok (.invokevirtual 79, 3) := by decide +kernel
theorem dX6_errorOfDelete_15 : decode cX6_errorOfDelete 15 = .ok (.ifCond .ne 5, 3) := by decide +kernel
theorem dX6_errorOfDelete_18 : decode cX6_errorOfDelete 18 = .ok (.iconst 2, 1) := by decide +kernel
theorem dX6_errorOfDelete_19 : decode cX6_errorOfDelete 19 = .ok (.ireturn, 1) := by decide +kernel
theorem dX6_errorOfDelete_20 : decode cX6_errorOfDelete 20 = .ok (.aload_n 0, 1) := by decide +kernel
theorem dX6_errorOfDelete_21 : decode cX6_errorOfDelete 21 = .ok (.iload_n 1, 1) := by decide +kernel
theorem dX6_errorOfDelete_22 : decode cX6_errorOfDelete 22 = .ok (.iload_n 2, 1) := by decide +kernel
theorem dX6_errorOfDelete_23 : decode cX6_errorOfDelete 23 = .ok (.invokevirtual 87, 3) := by decide +kernel
theorem dX6_errorOfDelete_26 : decode cX6_errorOfDelete 26 = .ok (.istore 4, 2) := by decide +kernel
theorem dX6_errorOfDelete_28 : decode cX6_errorOfDelete 28 = .ok (.iload_n 3, 1) := by decide +kernel
theorem dX6_errorOfDelete_29 : decode cX6_errorOfDelete 29 = .ok (.ifCond .eq 29, 3) := by decide +kernel
theorem dX6_errorOfDelete_32 : decode cX6_errorOfDelete 32 = .ok (.iload 4, 2) := by decide +kernel
theorem dX6_errorOfDelete_34 : decode cX6_errorOfDelete 34 = .ok (.ifCond .ne 16, 3) := by decide +kernel
theorem dX6_errorOfDelete_37 : decode cX6_errorOfDelete 37 = .ok (.aload_n 0, 1) := by decide +kernel
theorem dX6_errorOfDelete_38 : decode cX6_errorOfDelete 38 = .ok (.bipush 10, 2) := by decide +kernel
theorem dX6_errorOfDelete_40 : decode cX6_errorOfDelete 40 = .ok (.iload_n 1, 1) := by decide +kernel
theorem dX6_errorOfDelete_41 : decode cX6_errorOfDelete 41 = .ok (.imul, 1) := by decide +kernel
theorem dX6_errorOfDelete_42 : decode cX6_errorOfDelete 42 = .ok (.iload_n 2, 1) := by decide +kernel
theorem dX6_errorOfDelete_43 : decode cX6_errorOfDelete 43 = .ok (.iadd, 1) := by decide +kernel
theorem dX6_errorOfDelete_44 : decode cX6_errorOfDelete 44 = .ok (.invokevirtual 149, 3) := by decide +kernel
theorem dX6_errorOfDelete_47 : decode cX6_errorOfDelete 47 = .ok (.ifCond .eq 7, 3) := by decide +kernel
theorem dX6_errorOfDelete_50 : decode cX6_errorOfDelete 50 = .ok (.iconst 3, 1) := by decide +kernel
theorem dX6_errorOfDelete_51 : decode cX6_errorOfDelete 51 = .ok (.goto 17, 3) := by decide +kernel
theorem dX6_errorOfDelete_54 : decode cX6_errorOfDelete 54 = .ok (.iconst 0, 1) := by decide +kernel
theorem dX6_errorOfDelete_55 : decode cX6_errorOfDelete 55 = .ok (.goto 13, 3) := by decide +kernel
theorem dX6_errorOfDelete_58 : decode cX6_errorOfDelete 58 = .ok (.iload 4, 2) := by decide +kernel
theorem dX6_errorOfDelete_60 : decode cX6_errorOfDelete 60 = .ok (.ifCond .eq 7, 3) := by decide +kernel
theorem dX6_errorOfDelete_63 : decode cX6_errorOfDelete 63 = .ok (.iconst 0, 1) := by decide +kernel
theorem dX6_errorOfDelete_64 : decode cX6_errorOfDelete 64 = .ok (.goto 4, 3) := by decide +kernel
theorem dX6_errorOfDelete_67 : decode cX6_errorOfDelete 67 = .ok (.iconst 3, 1) := by decide +kernel
theorem dX6_errorOfDelete_68 : decode cX6_errorOfDelete 68 = .ok (.ireturn, 1) := by decide +kernel
theorem dX6_delete_0 : decode cX6_delete 0 = .ok (.aload_n 0, 1) := by decide +kernel
theorem dX6_delete_1 : decode cX6_delete 1 = .ok (.aload_n 0, 1) := by decide +kernel
theorem dX6_delete_2 : decode cX6_delete 2 = .ok (.iload_n 1, 1) := by decide +kernel
theorem dX6_delete_3 : decode cX6_delete 3 = .ok (.iload_n 2, 1) := by decide +kernel
theorem dX6_delete_4 : decode cX6_delete 4 = .ok (.iload_n 3, 1) := by decide +kernel
theorem dX6_delete_5 : decode cX6_delete 5 = .ok (.invokevirtual 152, 3) := by decide +kernel
theorem dX6_delete_8 : decode cX6_delete 8 = .ok (.invokevirtual 102, 3) := by decide +kernel
theorem dX6_delete_11 : decode cX6_delete 11 = .ok (.ifCond .ne 5, 3) := by decide +kernel
theorem dX6_delete_14 : decode cX6_delete 14 = .ok (.iconst 0, 1) := by decide +kernel
theorem dX6_delete_15 : decode cX6_delete 15 = .ok (.ireturn, 1) := by decide +kernel
theorem dX6_delete_16 : decode cX6_delete 16 = .ok (.aload_n 0, 1) := by decide +kernel
theorem dX6_delete_17 : decode cX6_delete 17 = .ok (.getfield 41, 3) := by decide +kernel
theorem dX6_delete_20 : decode cX6_delete 20 = .ok (.bipush 6, 2) := by decide +kernel
theorem dX6_delete_22 : decode cX6_delete 22 = .ok (.iload_n 1, 1) := by decide +kernel
theorem dX6_delete_23 : decode cX6_delete 23 = .ok (.imul, 1) := by decide +kernel
theorem dX6_delete_24 : decode cX6_delete 24 = .ok (.iload_n 2, 1) := by decide +kernel
theorem dX6_delete_25 : decode cX6_delete 25 = .ok (.iadd, 1) := by decide +kernel
theorem dX6_delete_26 : decode cX6_delete 26 = .ok (.iload_n 3, 1) := by decide +kernel
theorem dX6_delete_27 : decode cX6_delete 27 = .ok (.ifCond .eq 7, 3) := by decide +kernel
theorem dX6_delete_30 : decode cX6_delete 30 = .ok (.iconst 3, 1) := by decide +kernel
theorem dX6_delete_31 : decode cX6_delete 31 = .ok (.goto 4, 3) := by decide +kernel
theorem dX6_delete_34 : decode cX6_delete 34 = .ok (.iconst 2, 1) := by decide +kernel
theorem dX6_delete_35 : decode cX6_delete 35 = .ok (.iastore, 1) := by decide +kernel
theorem dX6_delete_36 : decode cX6_delete 36 = .ok (.iconst 0, 1) := by decide +kernel
theorem dX6_delete_37 : decode cX6_delete 37 = .ok (.istore 4, 2) := by decide +kernel
theorem dX6_delete_39 : decode cX6_delete 39 = .ok (.iconst 0, 1) := by decide +kernel
theorem dX6_delete_40 : decode cX6_delete 40 = .ok (.istore 5, 2) := by decide +kernel
theorem dX6_delete_42 : decode cX6_delete 42 = .ok (.iload 5, 2) := by decide +kernel
theorem dX6_delete_44 : decode cX6_delete 44 = .ok (.aload_n 0, 1) := by decide +kernel
theorem dX6_delete_45 : decode cX6_delete 45 = .ok (.getfield 44, 3) := by decide +kernel
theorem dX6_delete_48 : decode cX6_delete 48 = .ok (.iload_n 1, 1) := by decide +kernel
theorem dX6_delete_49 : decode cX6_delete 49 = .ok (.iaload, 1) := by decide +kernel
theorem dX6_delete_50 : decode cX6_delete 50 = .ok (.if_icmp .ge 29, 3) := by decide +kernel
theorem dX6_delete_53 : decode cX6_delete 53 = .ok (.iload 4, 2) := by decide +kernel
theorem dX6_delete_55 : decode cX6_delete 55 = .ok (.aload_n 0, 1) := by decide +kernel
theorem dX6_delete_56 : decode cX6_delete 56 = .ok (.iload_n 1, 1) := by decide +kernel
theorem dX6_delete_57 : decode cX6_delete 57 = .ok (.iload 5, 2) := by decide +kernel
theorem dX6_delete_59 : decode cX6_delete 59 = .ok (.invokevirtual 87, 3) := by decide +kernel
theorem dX6_delete_62 : decode cX6_delete 62 = .ok (.ifCond .eq 7, 3) := by decide +kernel
theorem dX6_delete_65 : decode cX6_delete 65 = .ok (.iconst 1, 1) := by decide +kernel
theorem dX6_delete_66 : decode cX6_delete 66 = .ok (.goto 4, 3) := by decide +kernel
theorem dX6_delete_69 : decode cX6_delete 69 = .ok (.iconst 0, 1) := by decide +kernel
theorem dX6_delete_70 : decode cX6_delete 70 = .ok (.iadd, 1) := by decide +kernel
theorem dX6_delete_71 : decode cX6_delete 71 = .ok (.istore 4, 2) := by decide +kernel
theorem dX6_delete_73 : decode cX6_delete 73 = .ok (.iinc 5 1, 3) := by decide +kernel
theorem dX6_delete_76 : decode cX6_delete 76 = .ok (.goto (-34), 3) := by decide +kernel
theorem dX6_delete_79 : decode cX6_delete 79 = .ok (.iload 4, 2) := by decide +kernel
theorem dX6_delete_81 : decode cX6_delete 81 = .ok (.ireturn, 1) := by decide +kernel
theorem dX6_versions_0 : decode cX6_versions 0 = .ok (.aload_n 0, 1) := by decide +kernel
theorem dX6_versions_1 : decode cX6_versions 1 = .ok (.iload_n 1, 1) := by decide +kernel
theorem dX6_versions_2 : decode cX6_versions 2 = .ok (.invokestatic 127, 3) := by decide +kernel
theorem dX6_versions_5 : decode cX6_versions 5 = .ok (.ifCond .eq 7, 3) := by decide +kernel
theorem dX6_versions_8 : decode cX6_versions 8 = .ok (.iconst 0, 1) := by decide +kernel
theorem dX6_versions_9 : decode cX6_versions 9 = .ok (.goto 4, 3) := by decide +kernel
theorem dX6_versions_12 : decode cX6_versions 12 = .ok (.iconst 1, 1) := by decide +kernel
theorem dX6_versions_13 : decode cX6_versions 13 = .ok (.invokevirtual 102, 3) := by decide +kernel
theorem dX6_versions_16 : decode cX6_versions 16 = .ok (.ifCond .eq 12, 3) := by decide +kernel
theorem dX6_versions_19 : decode cX6_versions 19 = .ok (.aload_n 0, 1) := by decide +kernel
theorem dX6_versions_20 : decode cX6_versions 20 = .ok (.getfield 44, 3) := by decide +kernel
theorem dX6_versions_23 : decode cX6_versions 23 = .ok (.iload_n 1, 1) := by decide +kernel
theorem dX6_versions_24 : decode cX6_versions 24 = .ok (.iaload, 1) := by decide +kernel
theorem dX6_versions_25 : decode cX6_versions 25 = .ok (.goto 4, 3) := by decide +kernel
theorem dX6_versions_28 : decode cX6_versions 28 = .ok (.iconst 0, 1) := by decide +kernel
theorem dX6_versions_29 : decode cX6_versions 29 = .ok (.ireturn, 1) := by decide +kernel
theorem dX6_isAsked_0 : decode cX6_isAsked 0 = .ok (.aload_n 0, 1) := by decide +kernel
theorem dX6_isAsked_1 : decode cX6_isAsked 1 = .ok (.iload_n 1, 1) := by decide +kernel
theorem dX6_isAsked_2 : decode cX6_isAsked 2 = .ok (.invokestatic 127, 3) := by decide +kernel
theorem dX6_isAsked_5 : decode cX6_isAsked 5 = .ok (.ifCond .ne 7, 3) := by decide +kernel
theorem dX6_isAsked_8 : decode cX6_isAsked 8 = .ok (.iconst 1, 1) := by decide +kernel
theorem dX6_isAsked_9 : decode cX6_isAsked 9 = .ok (.goto 17, 3) := by decide +kernel
theorem dX6_isAsked_12 : decode cX6_isAsked 12 = .ok (.aload_n 0, 1) := by decide +kernel
theorem dX6_isAsked_13 : decode cX6_isAsked 13 = .ok (.iload_n 1, 1) := by decide +kernel
theorem dX6_isAsked_14 : decode cX6_isAsked 14 = .ok (.iload_n 2, 1) := by decide +kernel
theorem dX6_isAsked_15 : decode cX6_isAsked 15 = .ok (.invokevirtual 79, 3) := by decide +kernel
theorem dX6_isAsked_18 : decode cX6_isAsked 18 = .ok (.ifCond .eq 7, 3) := by decide +kernel
theorem dX6_isAsked_21 : decode cX6_isAsked 21 = .ok (.iconst 0, 1) := by decide +kernel
theorem dX6_isAsked_22 : decode cX6_isAsked 22 = .ok (.goto 4, 3) := by decide +kernel
theorem dX6_isAsked_25 : decode cX6_isAsked 25 = .ok (.iconst 2, 1) := by decide +kernel
theorem dX6_isAsked_26 : decode cX6_isAsked 26 = .ok (.invokevirtual 102, 3) := by decide +kernel
theorem dX6_isAsked_29 : decode cX6_isAsked 29 = .ok (.ireturn, 1) := by decide +kernel
theorem dX6_number_0 : decode cX6_number 0 = .ok (.aload_n 0, 1) := by decide +kernel
theorem dX6_number_1 : decode cX6_number 1 = .ok (.iload_n 1, 1) := by decide +kernel
theorem dX6_number_2 : decode cX6_number 2 = .ok (.iload_n 2, 1) := by decide +kernel
theorem dX6_number_3 : decode cX6_number 3 = .ok (.invokevirtual 156, 3) := by decide +kernel
theorem dX6_number_6 : decode cX6_number 6 = .ok (.ifCond .eq 17, 3) := by decide +kernel
theorem dX6_number_9 : decode cX6_number 9 = .ok (.aload_n 0, 1) := by decide +kernel
theorem dX6_number_10 : decode cX6_number 10 = .ok (.getfield 38, 3) := by decide +kernel
theorem dX6_number_13 : decode cX6_number 13 = .ok (.bipush 6, 2) := by decide +kernel
theorem dX6_number_15 : decode cX6_number 15 = .ok (.iload_n 1, 1) := by decide +kernel
theorem dX6_number_16 : decode cX6_number 16 = .ok (.imul, 1) := by decide +kernel
theorem dX6_number_17 : decode cX6_number 17 = .ok (.iload_n 2, 1) := by decide +kernel
theorem dX6_number_18 : decode cX6_number 18 = .ok (.iadd, 1) := by decide +kernel
theorem dX6_number_19 : decode cX6_number 19 = .ok (.iaload, 1) := by decide +kernel
theorem dX6_number_20 : decode cX6_number 20 = .ok (.goto 4, 3) := by decide +kernel
theorem dX6_number_23 : decode cX6_number 23 = .ok (.iconst 0, 1) := by decide +kernel
theorem dX6_number_24 : decode cX6_number 24 = .ok (.ireturn, 1) := by decide +kernel
theorem dX6_isThere_0 : decode cX6_isThere 0 = .ok (.aload_n 0, 1) := by decide +kernel
theorem dX6_isThere_1 : decode cX6_isThere 1 = .ok (.iload_n 1, 1) := by decide +kernel
theorem dX6_isThere_2 : decode cX6_isThere 2 = .ok (.iload_n 2, 1) := by decide +kernel
theorem dX6_isThere_3 : decode cX6_isThere 3 = .ok (.invokevirtual 156, 3) := by decide +kernel
theorem dX6_isThere_6 : decode cX6_isThere 6 = .ok (.ifCond .eq 16, 3) := by decide +kernel
theorem dX6_isThere_9 : decode cX6_isThere 9 = .ok (.aload_n 0, 1) := by decide +kernel
theorem dX6_isThere_10 : decode cX6_isThere 10 = .ok (.iload_n 1, 1) := by decide +kernel
theorem dX6_isThere_11 : decode cX6_isThere 11 = .ok (.iload_n 2, 1) := by decide +kernel
theorem dX6_isThere_12 : decode cX6_isThere 12 = .ok (.invokevirtual 87, 3) := by decide +kernel
theorem dX6_isThere_15 : decode cX6_isThere 15 = .ok (.ifCond .eq 7, 3) := by decide +kernel
theorem dX6_isThere_18 : decode cX6_isThere 18 = .ok (.iconst 1, 1) := by decide +kernel
theorem dX6_isThere_19 : decode cX6_isThere 19 = .ok (.goto 4, 3) := by decide +kernel
theorem dX6_isThere_22 : decode cX6_isThere 22 = .ok (.iconst 0, 1) := by decide +kernel
theorem dX6_isThere_23 : decode cX6_isThere 23 = .ok (.ireturn, 1) := by decide +kernel
theorem dX6_length_0 : decode cX6_length 0 = .ok (.aload_n 0, 1) := by decide +kernel
theorem dX6_length_1 : decode cX6_length 1 = .ok (.iload_n 1, 1) := by decide +kernel
theorem dX6_length_2 : decode cX6_length 2 = .ok (.iload_n 2, 1) := by decide +kernel
theorem dX6_length_3 : decode cX6_length 3 = .ok (.invokevirtual 156, 3) := by decide +kernel
theorem dX6_length_6 : decode cX6_length 6 = .ok (.ifCond .eq 22, 3) := by decide +kernel
theorem dX6_length_9 : decode cX6_length 9 = .ok (.aload_n 0, 1) := by decide +kernel
theorem dX6_length_10 : decode cX6_length 10 = .ok (.getfield 32, 3) := by decide +kernel
theorem dX6_length_13 : decode cX6_length 13 = .ok (.aload_n 0, 1) := by decide +kernel
theorem dX6_length_14 : decode cX6_length 14 = .ok (.getfield 38, 3) := by decide +kernel
theorem dX6_length_17 : decode cX6_length 17 = .ok (.bipush 6, 2) := by decide +kernel
theorem dX6_length_19 : decode cX6_length 19 = .ok (.iload_n 1, 1) := by decide +kernel
theorem dX6_length_20 : decode cX6_length 20 = .ok (.imul, 1) := by decide +kernel
theorem dX6_length_21 : decode cX6_length 21 = .ok (.iload_n 2, 1) := by decide +kernel
theorem dX6_length_22 : decode cX6_length 22 = .ok (.iadd, 1) := by decide +kernel
theorem dX6_length_23 : decode cX6_length 23 = .ok (.iaload, 1) := by decide +kernel
theorem dX6_length_24 : decode cX6_length 24 = .ok (.iaload, 1) := by decide +kernel
theorem dX6_length_25 : decode cX6_length 25 = .ok (.goto 4, 3) := by decide +kernel
theorem dX6_length_28 : decode cX6_length 28 = .ok (.iconst 0, 1) := by decide +kernel
theorem dX6_length_29 : decode cX6_length 29 = .ok (.ireturn, 1) := by decide +kernel
theorem dX6_errorOfBoth_0 : decode cX6_errorOfBoth 0 = .ok (.iload_n 1, 1) := by decide +kernel
theorem dX6_errorOfBoth_1 : decode cX6_errorOfBoth 1 = .ok (.invokestatic 127, 3) := by decide +kernel
theorem dX6_errorOfBoth_4 : decode cX6_errorOfBoth 4 = .ok (.ifCond .eq 14, 3) := by decide +kernel
theorem dX6_errorOfBoth_7 : decode cX6_errorOfBoth 7 = .ok (.iload_n 3, 1) := by decide +kernel
theorem dX6_errorOfBoth_8 : decode cX6_errorOfBoth 8 = .ok (.invokestatic 127, 3) := by decide +kernel
theorem dX6_errorOfBoth_11 : decode cX6_errorOfBoth 11 = .ok (.ifCond .eq 7, 3) := by decide +kernel
theorem dX6_errorOfBoth_14 : decode cX6_errorOfBoth 14 = .ok (.iconst 1, 1) := by decide +kernel
theorem dX6_errorOfBoth_15 : decode cX6_errorOfBoth 15 = .ok (.goto 4, 3) := by decide +kernel
theorem dX6_errorOfBoth_18 : decode cX6_errorOfBoth 18 = .ok (.iconst 0, 1) := by decide +kernel
theorem dX6_errorOfBoth_19 : decode cX6_errorOfBoth 19 = .ok (.istore 5, 2) := by decide +kernel
theorem dX6_errorOfBoth_21 : decode cX6_errorOfBoth 21 = .ok (.iload 5, 2) := by decide +kernel
theorem dX6_errorOfBoth_23 : decode cX6_errorOfBoth 23 = .ok (.ifCond .ne 7, 3) := by decide +kernel
theorem dX6_errorOfBoth_26 : decode cX6_errorOfBoth 26 = .ok (.iconst 1, 1) := by decide +kernel
theorem dX6_errorOfBoth_27 : decode cX6_errorOfBoth 27 = .ok (.goto 27, 3) := by decide +kernel
theorem dX6_errorOfBoth_30 : decode cX6_errorOfBoth 30 = .ok (.aload_n 0, 1) := by decide +kernel
theorem dX6_errorOfBoth_31 : decode cX6_errorOfBoth 31 = .ok (.iload_n 1, 1) := by decide +kernel
theorem dX6_errorOfBoth_32 : decode cX6_errorOfBoth 32 = .ok (.iload_n 2, 1) := by decide +kernel
theorem dX6_errorOfBoth_33 : decode cX6_errorOfBoth 33 = .ok (.invokevirtual 79, 3) := by decide +kernel
theorem dX6_errorOfBoth_36 : decode cX6_errorOfBoth 36 = .ok (.ifCond .eq 17, 3) := by decide +kernel
theorem dX6_errorOfBoth_39 : decode cX6_errorOfBoth 39 = .ok (.aload_n 0, 1) := by decide +kernel
theorem dX6_errorOfBoth_40 : decode cX6_errorOfBoth 40 = .ok (.iload_n 3, 1) := by decide +kernel
theorem dX6_errorOfBoth_41 : decode cX6_errorOfBoth 41 = .ok (.iload 4, 2) := by decide +kernel
theorem dX6_errorOfBoth_43 : decode cX6_errorOfBoth 43 = .ok (.invokevirtual 79, 3) := by decide +kernel
theorem dX6_errorOfBoth_46 : decode cX6_errorOfBoth 46 = .ok (.ifCond .eq 7, 3) := by decide +kernel
theorem dX6_errorOfBoth_49 : decode cX6_errorOfBoth 49 = .ok (.iconst 0, 1) := by decide +kernel
theorem dX6_errorOfBoth_50 : decode cX6_errorOfBoth 50 = .ok (.goto 4, 3) := by decide +kernel
theorem dX6_errorOfBoth_53 : decode cX6_errorOfBoth 53 = .ok (.iconst 2, 1) := by decide +kernel
theorem dX6_errorOfBoth_54 : decode cX6_errorOfBoth 54 = .ok (.ireturn, 1) := by decide +kernel
theorem dX6_canOf_0 : decode cX6_canOf 0 = .ok (.aload_n 0, 1) := by decide +kernel
theorem dX6_canOf_1 : decode cX6_canOf 1 = .ok (.invokevirtual 124, 3) := by decide +kernel
theorem dX6_canOf_4 : decode cX6_canOf 4 = .ok (.aload_n 0, 1) := by decide +kernel
theorem dX6_canOf_5 : decode cX6_canOf 5 = .ok (.getfield 35, 3) := by decide +kernel
theorem dX6_canOf_8 : decode cX6_canOf 8 = .ok (.bipush 37, 2) := by decide +kernel
theorem dX6_canOf_10 : decode cX6_canOf 10 = .ok (.aload_n 0, 1) := by decide +kernel
theorem dX6_canOf_11 : decode cX6_canOf 11 = .ok (.getfield 38, 3) := by decide +kernel
theorem dX6_canOf_14 : decode cX6_canOf 14 = .ok (.bipush 6, 2) := by decide +kernel
theorem dX6_canOf_16 : decode cX6_canOf 16 = .ok (.iload_n 1, 1) := by decide +kernel
theorem dX6_canOf_17 : decode cX6_canOf 17 = .ok (.imul, 1) := by decide +kernel
theorem dX6_canOf_18 : decode cX6_canOf 18 = .ok (.iload_n 2, 1) := by decide +kernel
theorem dX6_canOf_19 : decode cX6_canOf 19 = .ok (.iadd, 1) := by decide +kernel
theorem dX6_canOf_20 : decode cX6_canOf 20 = .ok (.iaload, 1) := by decide +kernel
theorem dX6_canOf_21 : decode cX6_canOf 21 = .ok (.imul, 1) := by decide +kernel
theorem dX6_canOf_22 : decode cX6_canOf 22 = .ok (.aload_n 0, 1) := by decide +kernel
theorem dX6_canOf_23 : decode cX6_canOf 23 = .ok (.getfield 38, 3) := by decide +kernel
theorem dX6_canOf_26 : decode cX6_canOf 26 = .ok (.bipush 6, 2) := by decide +kernel
theorem dX6_canOf_28 : decode cX6_canOf 28 = .ok (.iload_n 3, 1) := by decide +kernel
theorem dX6_canOf_29 : decode cX6_canOf 29 = .ok (.imul, 1) := by decide +kernel
theorem dX6_canOf_30 : decode cX6_canOf 30 = .ok (.iload 4, 2) := by decide +kernel
theorem dX6_canOf_32 : decode cX6_canOf 32 = .ok (.iadd, 1) := by decide +kernel
theorem dX6_canOf_33 : decode cX6_canOf 33 = .ok (.iaload, 1) := by decide +kernel
theorem dX6_canOf_34 : decode cX6_canOf 34 = .ok (.iadd, 1) := by decide +kernel
theorem dX6_canOf_35 : decode cX6_canOf 35 = .ok (.baload, 1) := by decide +kernel
theorem dX6_canOf_36 : decode cX6_canOf 36 = .ok (.ireturn, 1) := by decide +kernel
theorem dX6_canRead_0 : decode cX6_canRead 0 = .ok (.aload_n 0, 1) := by decide +kernel
theorem dX6_canRead_1 : decode cX6_canRead 1 = .ok (.aload_n 0, 1) := by decide +kernel
theorem dX6_canRead_2 : decode cX6_canRead 2 = .ok (.iload_n 1, 1) := by decide +kernel
theorem dX6_canRead_3 : decode cX6_canRead 3 = .ok (.iload_n 2, 1) := by decide +kernel
theorem dX6_canRead_4 : decode cX6_canRead 4 = .ok (.iload_n 3, 1) := by decide +kernel
theorem dX6_canRead_5 : decode cX6_canRead 5 = .ok (.iload 4, 2) := by decide +kernel
theorem dX6_canRead_7 : decode cX6_canRead 7 = .ok (.invokevirtual 159, 3) := by decide +kernel
theorem dX6_canRead_10 : decode cX6_canRead 10 = .ok (.invokevirtual 102, 3) := by decide +kernel
theorem dX6_canRead_13 : decode cX6_canRead 13 = .ok (.ifCond .eq 19, 3) := by decide +kernel
theorem dX6_canRead_16 : decode cX6_canRead 16 = .ok (.aload_n 0, 1) := by decide +kernel
theorem dX6_canRead_17 : decode cX6_canRead 17 = .ok (.iload_n 1, 1) := by decide +kernel
theorem dX6_canRead_18 : decode cX6_canRead 18 = .ok (.iload_n 2, 1) := by decide +kernel
theorem dX6_canRead_19 : decode cX6_canRead 19 = .ok (.iload_n 3, 1) := by decide +kernel
theorem dX6_canRead_20 : decode cX6_canRead 20 = .ok (.iload 4, 2) := by decide +kernel
theorem dX6_canRead_22 : decode cX6_canRead 22 = .ok (.invokevirtual 162, 3) := by decide +kernel
theorem dX6_canRead_25 : decode cX6_canRead 25 = .ok (.ifCond .eq 7, 3) := by decide +kernel
theorem dX6_canRead_28 : decode cX6_canRead 28 = .ok (.iconst 1, 1) := by decide +kernel
theorem dX6_canRead_29 : decode cX6_canRead 29 = .ok (.goto 4, 3) := by decide +kernel
theorem dX6_canRead_32 : decode cX6_canRead 32 = .ok (.iconst 0, 1) := by decide +kernel
theorem dX6_canRead_33 : decode cX6_canRead 33 = .ok (.ireturn, 1) := by decide +kernel
theorem dX6_small_0 : decode cX6_small 0 = .ok (.iconst 1, 1) := by decide +kernel
theorem dX6_small_1 : decode cX6_small 1 = .ok (.istore_n 2, 1) := by decide +kernel
theorem dX6_small_2 : decode cX6_small 2 = .ok (.iconst 0, 1) := by decide +kernel
theorem dX6_small_3 : decode cX6_small 3 = .ok (.istore_n 3, 1) := by decide +kernel
theorem dX6_small_4 : decode cX6_small 4 = .ok (.aload_n 0, 1) := by decide +kernel
theorem dX6_small_5 : decode cX6_small 5 = .ok (.getfield 59, 3) := by decide +kernel
theorem dX6_small_8 : decode cX6_small 8 = .ok (.iconst 0, 1) := by decide +kernel
theorem dX6_small_9 : decode cX6_small 9 = .ok (.iload_n 1, 1) := by decide +kernel
theorem dX6_small_10 : decode cX6_small 10 = .ok (.iastore, 1) := by decide +kernel
theorem dX6_small_11 : decode cX6_small 11 = .ok (.aload_n 0, 1) := by decide +kernel
theorem dX6_small_12 : decode cX6_small 12 = .ok (.getfield 65, 3) := by decide +kernel
theorem dX6_small_15 : decode cX6_small 15 = .ok (.iconst 0, 1) := by decide +kernel
theorem dX6_small_16 : decode cX6_small 16 = .ok (.iconst 0, 1) := by decide +kernel
theorem dX6_small_17 : decode cX6_small 17 = .ok (.iastore, 1) := by decide +kernel
theorem dX6_small_18 : decode cX6_small 18 = .ok (.iload_n 3, 1) := by decide +kernel
theorem dX6_small_19 : decode cX6_small 19 = .ok (.ifCond .lt 155, 3) := by decide +kernel
theorem dX6_small_22 : decode cX6_small 22 = .ok (.aload_n 0, 1) := by decide +kernel
theorem dX6_small_23 : decode cX6_small 23 = .ok (.getfield 59, 3) := by decide +kernel
theorem dX6_small_26 : decode cX6_small 26 = .ok (.iload_n 3, 1) := by decide +kernel
theorem dX6_small_27 : decode cX6_small 27 = .ok (.iaload, 1) := by decide +kernel
theorem dX6_small_28 : decode cX6_small 28 = .ok (.istore 4, 2) := by decide +kernel
theorem dX6_small_30 : decode cX6_small 30 = .ok (.aload_n 0, 1) := by decide +kernel
theorem dX6_small_31 : decode cX6_small 31 = .ok (.getfield 65, 3) := by decide +kernel
theorem dX6_small_34 : decode cX6_small 34 = .ok (.iload_n 3, 1) := by decide +kernel
theorem dX6_small_35 : decode cX6_small 35 = .ok (.iaload, 1) := by decide +kernel
theorem dX6_small_36 : decode cX6_small 36 = .ok (.aload_n 0, 1) := by decide +kernel
theorem dX6_small_37 : decode cX6_small 37 = .ok (.getfield 29, 3) := by decide +kernel
theorem dX6_small_40 : decode cX6_small 40 = .ok (.iload 4, 2) := by decide +kernel
theorem dX6_small_42 : decode cX6_small 42 = .ok (.iaload, 1) := by decide +kernel
theorem dX6_small_43 : decode cX6_small 43 = .ok (.if_icmp .ne 9, 3) := by decide +kernel
theorem dX6_small_46 : decode cX6_small 46 = .ok (.iinc 3 (-1), 3) := by decide +kernel
theorem dX6_small_49 : decode cX6_small 49 = .ok (.goto 122, 3) := by decide +kernel
theorem dX6_small_52 : decode cX6_small 52 = .ok (.iconst 5, 1) := by decide +kernel
theorem dX6_small_53 : decode cX6_small 53 = .ok (.iload 4, 2) := by decide +kernel
theorem dX6_small_55 : decode cX6_small 55 = .ok (.imul, 1) := by decide +kernel
theorem dX6_small_56 : decode cX6_small 56 = .ok (.aload_n 0, 1) := by decide +kernel
theorem dX6_small_57 : decode cX6_small 57 = .ok (.getfield 65, 3) := by decide +kernel
theorem dX6_small_60 : decode cX6_small 60 = .ok (.iload_n 3, 1) := by decide +kernel
theorem dX6_small_61 : decode cX6_small 61 = .ok (.iaload, 1) := by decide +kernel
theorem dX6_small_62 : decode cX6_small 62 = .ok (.iadd, 1) := by decide +kernel
theorem dX6_small_63 : decode cX6_small 63 = .ok (.istore 5, 2) := by decide +kernel
theorem dX6_small_65 : decode cX6_small 65 = .ok (.aload_n 0, 1) := by decide +kernel
theorem dX6_small_66 : decode cX6_small 66 = .ok (.getfield 65, 3) := by decide +kernel
theorem dX6_small_69 : decode cX6_small 69 = .ok (.iload_n 3, 1) := by decide +kernel
theorem dX6_small_70 : decode cX6_small 70 = .ok (.dup2, 1) := by decide +kernel
theorem dX6_small_71 : decode cX6_small 71 = .ok (.iaload, 1) := by decide +kernel
theorem dX6_small_72 : decode cX6_small 72 = .ok (.iconst 1, 1) := by decide +kernel
theorem dX6_small_73 : decode cX6_small 73 = .ok (.iadd, 1) := by decide +kernel
theorem dX6_small_74 : decode cX6_small 74 = .ok (.iastore, 1) := by decide +kernel
theorem dX6_small_75 : decode cX6_small 75 = .ok (.aload_n 0, 1) := by decide +kernel
theorem dX6_small_76 : decode cX6_small 76 = .ok (.getfield 13, 3) := by decide +kernel
theorem dX6_small_79 : decode cX6_small 79 = .ok (.iload 5, 2) := by decide +kernel
theorem dX6_small_81 : decode cX6_small 81 = .ok (.iaload, 1) := by decide +kernel
theorem dX6_small_82 : decode cX6_small 82 = .ok (.iconst 4, 1) := by decide +kernel
theorem dX6_small_83 : decode cX6_small 83 = .ok (.if_icmp .ne 33, 3) := by decide +kernel
theorem dX6_small_86 : decode cX6_small 86 = .ok (.iinc 3 1, 3) := by decide +kernel
theorem dX6_small_89 : decode cX6_small 89 = .ok (.aload_n 0, 1) := by decide +kernel
theorem dX6_small_90 : decode cX6_small 90 = .ok (.getfield 59, 3) := by decide +kernel
theorem dX6_small_93 : decode cX6_small 93 = .ok (.iload_n 3, 1) := by decide +kernel
theorem dX6_small_94 : decode cX6_small 94 = .ok (.aload_n 0, 1) := by decide +kernel
theorem dX6_small_95 : decode cX6_small 95 = .ok (.aload_n 0, 1) := by decide +kernel
theorem dX6_small_96 : decode cX6_small 96 = .ok (.getfield 16, 3) := by decide +kernel
theorem dX6_small_99 : decode cX6_small 99 = .ok (.iload 5, 2) := by decide +kernel
theorem dX6_small_101 : decode cX6_small 101 = .ok (.iaload, 1) := by decide +kernel
theorem dX6_small_102 : decode cX6_small 102 = .ok (.invokevirtual 90, 3) := by decide +kernel
theorem dX6_small_105 : decode cX6_small 105 = .ok (.iastore, 1) := by decide +kernel
theorem dX6_small_106 : decode cX6_small 106 = .ok (.aload_n 0, 1) := by decide +kernel
theorem dX6_small_107 : decode cX6_small 107 = .ok (.getfield 65, 3) := by decide +kernel
theorem dX6_small_110 : decode cX6_small 110 = .ok (.iload_n 3, 1) := by decide +kernel
theorem dX6_small_111 : decode cX6_small 111 = .ok (.iconst 0, 1) := by decide +kernel
theorem dX6_small_112 : decode cX6_small 112 = .ok (.iastore, 1) := by decide +kernel
theorem dX6_small_113 : decode cX6_small 113 = .ok (.goto 58, 3) := by decide +kernel
theorem dX6_small_116 : decode cX6_small 116 = .ok (.iload_n 2, 1) := by decide +kernel
theorem dX6_small_117 : decode cX6_small 117 = .ok (.aload_n 0, 1) := by decide +kernel
theorem dX6_small_118 : decode cX6_small 118 = .ok (.getfield 13, 3) := by decide +kernel
theorem dX6_small_121 : decode cX6_small 121 = .ok (.iload 5, 2) := by decide +kernel
theorem dX6_small_123 : decode cX6_small 123 = .ok (.iaload, 1) := by decide +kernel
theorem dX6_small_124 : decode cX6_small 124 = .ok (.iconst 2, 1) := by decide +kernel
theorem dX6_small_125 : decode cX6_small 125 = .ok (.if_icmp .ne 7, 3) := by decide +kernel
theorem dX6_small_128 : decode cX6_small 128 = .ok (.iconst 2, 1) := by decide +kernel
theorem dX6_small_129 : decode cX6_small 129 = .ok (.goto 25, 3) := by decide +kernel
theorem dX6_small_132 : decode cX6_small 132 = .ok (.aload_n 0, 1) := by decide +kernel
theorem dX6_small_133 : decode cX6_small 133 = .ok (.getfield 13, 3) := by decide +kernel
theorem dX6_small_136 : decode cX6_small 136 = .ok (.iload 5, 2) := by decide +kernel
theorem dX6_small_138 : decode cX6_small 138 = .ok (.iaload, 1) := by decide +kernel
theorem dX6_small_139 : decode cX6_small 139 = .ok (.iconst 3, 1) := by decide +kernel
theorem dX6_small_140 : decode cX6_small 140 = .ok (.if_icmp .ne 13, 3) := by decide +kernel
theorem dX6_small_143 : decode cX6_small 143 = .ok (.aload_n 0, 1) := by decide +kernel
theorem dX6_small_144 : decode cX6_small 144 = .ok (.getfield 16, 3) := by decide +kernel
theorem dX6_small_147 : decode cX6_small 147 = .ok (.iload 5, 2) := by decide +kernel
theorem dX6_small_149 : decode cX6_small 149 = .ok (.iaload, 1) := by decide +kernel
theorem dX6_small_150 : decode cX6_small 150 = .ok (.goto 4, 3) := by decide +kernel
theorem dX6_small_153 : decode cX6_small 153 = .ok (.iconst 1, 1) := by decide +kernel
theorem dX6_small_154 : decode cX6_small 154 = .ok (.imul, 1) := by decide +kernel
theorem dX6_small_155 : decode cX6_small 155 = .ok (.istore_n 2, 1) := by decide +kernel
theorem dX6_small_156 : decode cX6_small 156 = .ok (.iload_n 2, 1) := by decide +kernel
theorem dX6_small_157 : decode cX6_small 157 = .ok (.sipush 300, 3) := by decide +kernel
theorem dX6_small_160 : decode cX6_small 160 = .ok (.if_icmp .le 9, 3) := by decide +kernel
theorem dX6_small_163 : decode cX6_small 163 = .ok (.sipush 301, 3) := by decide +kernel
theorem dX6_small_166 : decode cX6_small 166 = .ok (.goto 4, 3) := by decide +kernel
theorem dX6_small_169 : decode cX6_small 169 = .ok (.iload_n 2, 1) := by decide +kernel
theorem dX6_small_170 : decode cX6_small 170 = .ok (.istore_n 2, 1) := by decide +kernel
theorem dX6_small_171 : decode cX6_small 171 = .ok (.goto (-153), 3) := by decide +kernel
theorem dX6_small_174 : decode cX6_small 174 = .ok (.iload_n 2, 1) := by decide +kernel
theorem dX6_small_175 : decode cX6_small 175 = .ok (.ireturn, 1) := by decide +kernel
theorem dX6_readsAll_0 : decode cX6_readsAll 0 = .ok (.aload_n 0, 1) := by decide +kernel
theorem dX6_readsAll_1 : decode cX6_readsAll 1 = .ok (.iload_n 1, 1) := by decide +kernel
theorem dX6_readsAll_2 : decode cX6_readsAll 2 = .ok (.iload_n 2, 1) := by decide +kernel
theorem dX6_readsAll_3 : decode cX6_readsAll 3 = .ok (.iload_n 3, 1) := by decide +kernel
theorem dX6_readsAll_4 : decode cX6_readsAll 4 = .ok (.iload 4, 2) := by decide +kernel
theorem dX6_readsAll_6 : decode cX6_readsAll 6 = .ok (.invokevirtual 159, 3) := by decide +kernel
theorem dX6_readsAll_9 : decode cX6_readsAll 9 = .ok (.istore 5, 2) := by decide +kernel
theorem dX6_readsAll_11 : decode cX6_readsAll 11 = .ok (.iload 5, 2) := by decide +kernel
theorem dX6_readsAll_13 : decode cX6_readsAll 13 = .ok (.ifCond .ne 29, 3) := by decide +kernel
theorem dX6_readsAll_16 : decode cX6_readsAll 16 = .ok (.aload_n 0, 1) := by decide +kernel
theorem dX6_readsAll_17 : decode cX6_readsAll 17 = .ok (.aload_n 0, 1) := by decide +kernel
theorem dX6_readsAll_18 : decode cX6_readsAll 18 = .ok (.getfield 38, 3) := by decide +kernel
theorem dX6_readsAll_21 : decode cX6_readsAll 21 = .ok (.bipush 6, 2) := by decide +kernel
theorem dX6_readsAll_23 : decode cX6_readsAll 23 = .ok (.iload_n 3, 1) := by decide +kernel
theorem dX6_readsAll_24 : decode cX6_readsAll 24 = .ok (.imul, 1) := by decide +kernel
theorem dX6_readsAll_25 : decode cX6_readsAll 25 = .ok (.iload 4, 2) := by decide +kernel
theorem dX6_readsAll_27 : decode cX6_readsAll 27 = .ok (.iadd, 1) := by decide +kernel
theorem dX6_readsAll_28 : decode cX6_readsAll 28 = .ok (.iaload, 1) := by decide +kernel
theorem dX6_readsAll_29 : decode cX6_readsAll 29 = .ok (.invokevirtual 165, 3) := by decide +kernel
theorem dX6_readsAll_32 : decode cX6_readsAll 32 = .ok (.sipush 300, 3) := by decide +kernel
theorem dX6_readsAll_35 : decode cX6_readsAll 35 = .ok (.if_icmp .le 7, 3) := by decide +kernel
theorem dX6_readsAll_38 : decode cX6_readsAll 38 = .ok (.iconst 1, 1) := by decide +kernel
theorem dX6_readsAll_39 : decode cX6_readsAll 39 = .ok (.goto 4, 3) := by decide +kernel
theorem dX6_readsAll_42 : decode cX6_readsAll 42 = .ok (.iconst 0, 1) := by decide +kernel
theorem dX6_readsAll_43 : decode cX6_readsAll 43 = .ok (.istore 6, 2) := by decide +kernel
theorem dX6_readsAll_45 : decode cX6_readsAll 45 = .ok (.aload_n 0, 1) := by decide +kernel
theorem dX6_readsAll_46 : decode cX6_readsAll 46 = .ok (.iload 5, 2) := by decide +kernel
theorem dX6_readsAll_48 : decode cX6_readsAll 48 = .ok (.ifCond .le 8, 3) := by decide +kernel
theorem dX6_readsAll_51 : decode cX6_readsAll 51 = .ok (.iload 5, 2) := by decide +kernel
theorem dX6_readsAll_53 : decode cX6_readsAll 53 = .ok (.goto 13, 3) := by decide +kernel
theorem dX6_readsAll_56 : decode cX6_readsAll 56 = .ok (.iload 6, 2) := by decide +kernel
theorem dX6_readsAll_58 : decode cX6_readsAll 58 = .ok (.ifCond .eq 7, 3) := by decide +kernel
theorem dX6_readsAll_61 : decode cX6_readsAll 61 = .ok (.iconst 3, 1) := by decide +kernel
theorem dX6_readsAll_62 : decode cX6_readsAll 62 = .ok (.goto 4, 3) := by decide +kernel
theorem dX6_readsAll_65 : decode cX6_readsAll 65 = .ok (.iconst 0, 1) := by decide +kernel
theorem dX6_readsAll_66 : decode cX6_readsAll 66 = .ok (.invokevirtual 102, 3) := by decide +kernel
theorem dX6_readsAll_69 : decode cX6_readsAll 69 = .ok (.ifCond .eq 19, 3) := by decide +kernel
theorem dX6_readsAll_72 : decode cX6_readsAll 72 = .ok (.aload_n 0, 1) := by decide +kernel
theorem dX6_readsAll_73 : decode cX6_readsAll 73 = .ok (.iload_n 1, 1) := by decide +kernel
theorem dX6_readsAll_74 : decode cX6_readsAll 74 = .ok (.iload_n 2, 1) := by decide +kernel
theorem dX6_readsAll_75 : decode cX6_readsAll 75 = .ok (.iload_n 3, 1) := by decide +kernel
theorem dX6_readsAll_76 : decode cX6_readsAll 76 = .ok (.iload 4, 2) := by decide +kernel
theorem dX6_readsAll_78 : decode cX6_readsAll 78 = .ok (.invokevirtual 162, 3) := by decide +kernel
theorem dX6_readsAll_81 : decode cX6_readsAll 81 = .ok (.ifCond .eq 7, 3) := by decide +kernel
theorem dX6_readsAll_84 : decode cX6_readsAll 84 = .ok (.iconst 1, 1) := by decide +kernel
theorem dX6_readsAll_85 : decode cX6_readsAll 85 = .ok (.goto 4, 3) := by decide +kernel
theorem dX6_readsAll_88 : decode cX6_readsAll 88 = .ok (.iconst 0, 1) := by decide +kernel
theorem dX6_readsAll_89 : decode cX6_readsAll 89 = .ok (.ireturn, 1) := by decide +kernel
theorem dX6_value_0 : decode cX6_value 0 = .ok (.aload_n 0, 1) := by decide +kernel
theorem dX6_value_1 : decode cX6_value 1 = .ok (.aload_n 0, 1) := by decide +kernel
theorem dX6_value_2 : decode cX6_value 2 = .ok (.getfield 168, 3) := by decide +kernel
theorem dX6_value_5 : decode cX6_value 5 = .ok (.bipush 20, 2) := by decide +kernel
theorem dX6_value_7 : decode cX6_value 7 = .ok (.if_icmp .ne 7, 3) := by decide +kernel
theorem dX6_value_10 : decode cX6_value 10 = .ok (.iconst 1, 1) := by decide +kernel
theorem dX6_value_11 : decode cX6_value 11 = .ok (.goto 4, 3) := by decide +kernel
theorem dX6_value_14 : decode cX6_value 14 = .ok (.iconst 0, 1) := by decide +kernel
theorem dX6_value_15 : decode cX6_value 15 = .ok (.invokevirtual 102, 3) := by decide +kernel
theorem dX6_value_18 : decode cX6_value 18 = .ok (.ifCond .ne 5, 3) := by decide +kernel
theorem dX6_value_21 : decode cX6_value 21 = .ok (.iconst 0, 1) := by decide +kernel
theorem dX6_value_22 : decode cX6_value 22 = .ok (.ireturn, 1) := by decide +kernel
theorem dX6_value_23 : decode cX6_value 23 = .ok (.aload_n 0, 1) := by decide +kernel
theorem dX6_value_24 : decode cX6_value 24 = .ok (.getfield 53, 3) := by decide +kernel
theorem dX6_value_27 : decode cX6_value 27 = .ok (.aload_n 0, 1) := by decide +kernel
theorem dX6_value_28 : decode cX6_value 28 = .ok (.getfield 168, 3) := by decide +kernel
theorem dX6_value_31 : decode cX6_value 31 = .ok (.iload_n 1, 1) := by decide +kernel
theorem dX6_value_32 : decode cX6_value 32 = .ok (.iastore, 1) := by decide +kernel
theorem dX6_value_33 : decode cX6_value 33 = .ok (.aload_n 0, 1) := by decide +kernel
theorem dX6_value_34 : decode cX6_value 34 = .ok (.dup, 1) := by decide +kernel
theorem dX6_value_35 : decode cX6_value 35 = .ok (.getfield 168, 3) := by decide +kernel
theorem dX6_value_38 : decode cX6_value 38 = .ok (.iconst 1, 1) := by decide +kernel
theorem dX6_value_39 : decode cX6_value 39 = .ok (.iadd, 1) := by decide +kernel
theorem dX6_value_40 : decode cX6_value 40 = .ok (.putfield 168, 3) := by decide +kernel
theorem dX6_value_43 : decode cX6_value 43 = .ok (.aload_n 0, 1) := by decide +kernel
theorem dX6_value_44 : decode cX6_value 44 = .ok (.getfield 168, 3) := by decide +kernel
theorem dX6_value_47 : decode cX6_value 47 = .ok (.ireturn, 1) := by decide +kernel
theorem dX6_clear_0 : decode cX6_clear 0 = .ok (.aload_n 0, 1) := by decide +kernel
theorem dX6_clear_1 : decode cX6_clear 1 = .ok (.iconst 0, 1) := by decide +kernel
theorem dX6_clear_2 : decode cX6_clear 2 = .ok (.putfield 71, 3) := by decide +kernel
theorem dX6_clear_5 : decode cX6_clear 5 = .ok (.aload_n 0, 1) := by decide +kernel
theorem dX6_clear_6 : decode cX6_clear 6 = .ok (.getfield 168, 3) := by decide +kernel
theorem dX6_clear_9 : decode cX6_clear 9 = .ok (.istore_n 1, 1) := by decide +kernel
theorem dX6_clear_10 : decode cX6_clear 10 = .ok (.aload_n 0, 1) := by decide +kernel
theorem dX6_clear_11 : decode cX6_clear 11 = .ok (.iconst 0, 1) := by decide +kernel
theorem dX6_clear_12 : decode cX6_clear 12 = .ok (.putfield 168, 3) := by decide +kernel
theorem dX6_clear_15 : decode cX6_clear 15 = .ok (.iload_n 1, 1) := by decide +kernel
theorem dX6_clear_16 : decode cX6_clear 16 = .ok (.ireturn, 1) := by decide +kernel
theorem dX6_isRecordOf_0 : decode cX6_isRecordOf 0 = .ok (.iconst 0, 1) := by decide +kernel
theorem dX6_isRecordOf_1 : decode cX6_isRecordOf 1 = .ok (.istore_n 2, 1) := by decide +kernel
theorem dX6_isRecordOf_2 : decode cX6_isRecordOf 2 = .ok (.iconst 0, 1) := by decide +kernel
theorem dX6_isRecordOf_3 : decode cX6_isRecordOf 3 = .ok (.istore_n 3, 1) := by decide +kernel
theorem dX6_isRecordOf_4 : decode cX6_isRecordOf 4 = .ok (.aload_n 0, 1) := by decide +kernel
theorem dX6_isRecordOf_5 : decode cX6_isRecordOf 5 = .ok (.getfield 59, 3) := by decide +kernel
theorem dX6_isRecordOf_8 : decode cX6_isRecordOf 8 = .ok (.iconst 0, 1) := by decide +kernel
theorem dX6_isRecordOf_9 : decode cX6_isRecordOf 9 = .ok (.iload_n 1, 1) := by decide +kernel
theorem dX6_isRecordOf_10 : decode cX6_isRecordOf 10 = .ok (.iastore, 1) := by decide +kernel
theorem dX6_isRecordOf_11 : decode cX6_isRecordOf 11 = .ok (.aload_n 0, 1) := by decide +kernel
theorem dX6_isRecordOf_12 : decode cX6_isRecordOf 12 = .ok (.getfield 65, 3) := by decide +kernel
theorem dX6_isRecordOf_15 : decode cX6_isRecordOf 15 = .ok (.iconst 0, 1) := by decide +kernel
theorem dX6_isRecordOf_16 : decode cX6_isRecordOf 16 = .ok (.iconst 0, 1) := by decide +kernel
theorem dX6_isRecordOf_17 : decode cX6_isRecordOf 17 = .ok (.iastore, 1) := by decide +kernel
theorem dX6_isRecordOf_18 : decode cX6_isRecordOf 18 = .ok (.iload_n 3, 1) := by decide +kernel
theorem dX6_isRecordOf_19 : decode cX6_isRecordOf 19 = .ok (.ifCond .lt 128, 3) := by decide +kernel
theorem dX6_isRecordOf_22 : decode cX6_isRecordOf 22 = .ok (.aload_n 0, 1) := by decide +kernel
theorem dX6_isRecordOf_23 : decode cX6_isRecordOf 23 = .ok (.getfield 59, 3) := by decide +kernel
theorem dX6_isRecordOf_26 : decode cX6_isRecordOf 26 = .ok (.iload_n 3, 1) := by decide +kernel
theorem dX6_isRecordOf_27 : decode cX6_isRecordOf 27 = .ok (.iaload, 1) := by decide +kernel
theorem dX6_isRecordOf_28 : decode cX6_isRecordOf 28 = .ok (.istore 4, 2) := by decide +kernel
theorem dX6_isRecordOf_30 : decode cX6_isRecordOf 30 = .ok (.aload_n 0, 1) := by decide +kernel
theorem dX6_isRecordOf_31 : decode cX6_isRecordOf 31 = .ok (.getfield 65, 3) := by decide +kernel
theorem dX6_isRecordOf_34 : decode cX6_isRecordOf 34 = .ok (.iload_n 3, 1) := by decide +kernel
theorem dX6_isRecordOf_35 : decode cX6_isRecordOf 35 = .ok (.iaload, 1) := by decide +kernel
theorem dX6_isRecordOf_36 : decode cX6_isRecordOf 36 = .ok (.aload_n 0, 1) := by decide +kernel
theorem dX6_isRecordOf_37 : decode cX6_isRecordOf 37 = .ok (.getfield 29, 3) := by decide +kernel
theorem dX6_isRecordOf_40 : decode cX6_isRecordOf 40 = .ok (.iload 4, 2) := by decide +kernel
theorem dX6_isRecordOf_42 : decode cX6_isRecordOf 42 = .ok (.iaload, 1) := by decide +kernel
theorem dX6_isRecordOf_43 : decode cX6_isRecordOf 43 = .ok (.if_icmp .ne 9, 3) := by decide +kernel
theorem dX6_isRecordOf_46 : decode cX6_isRecordOf 46 = .ok (.iinc 3 (-1), 3) := by decide +kernel
theorem dX6_isRecordOf_49 : decode cX6_isRecordOf 49 = .ok (.goto 95, 3) := by decide +kernel
theorem dX6_isRecordOf_52 : decode cX6_isRecordOf 52 = .ok (.iconst 5, 1) := by decide +kernel
theorem dX6_isRecordOf_53 : decode cX6_isRecordOf 53 = .ok (.iload 4, 2) := by decide +kernel
theorem dX6_isRecordOf_55 : decode cX6_isRecordOf 55 = .ok (.imul, 1) := by decide +kernel
theorem dX6_isRecordOf_56 : decode cX6_isRecordOf 56 = .ok (.aload_n 0, 1) := by decide +kernel
theorem dX6_isRecordOf_57 : decode cX6_isRecordOf 57 = .ok (.getfield 65, 3) := by decide +kernel
theorem dX6_isRecordOf_60 : decode cX6_isRecordOf 60 = .ok (.iload_n 3, 1) := by decide +kernel
theorem dX6_isRecordOf_61 : decode cX6_isRecordOf 61 = .ok (.iaload, 1) := by decide +kernel
theorem dX6_isRecordOf_62 : decode cX6_isRecordOf 62 = .ok (.iadd, 1) := by decide +kernel
theorem dX6_isRecordOf_63 : decode cX6_isRecordOf 63 = .ok (.istore 5, 2) := by decide +kernel
theorem dX6_isRecordOf_65 : decode cX6_isRecordOf 65 = .ok (.aload_n 0, 1) := by decide +kernel
theorem dX6_isRecordOf_66 : decode cX6_isRecordOf 66 = .ok (.getfield 65, 3) := by decide +kernel
theorem dX6_isRecordOf_69 : decode cX6_isRecordOf 69 = .ok (.iload_n 3, 1) := by decide +kernel
theorem dX6_isRecordOf_70 : decode cX6_isRecordOf 70 = .ok (.dup2, 1) := by decide +kernel
theorem dX6_isRecordOf_71 : decode cX6_isRecordOf 71 = .ok (.iaload, 1) := by decide +kernel
theorem dX6_isRecordOf_72 : decode cX6_isRecordOf 72 = .ok (.iconst 1, 1) := by decide +kernel
theorem dX6_isRecordOf_73 : decode cX6_isRecordOf 73 = .ok (.iadd, 1) := by decide +kernel
theorem dX6_isRecordOf_74 : decode cX6_isRecordOf 74 = .ok (.iastore, 1) := by decide +kernel
theorem dX6_isRecordOf_75 : decode cX6_isRecordOf 75 = .ok (.aload_n 0, 1) := by decide +kernel
theorem dX6_isRecordOf_76 : decode cX6_isRecordOf 76 = .ok (.getfield 13, 3) := by decide +kernel
theorem dX6_isRecordOf_79 : decode cX6_isRecordOf 79 = .ok (.iload 5, 2) := by decide +kernel
theorem dX6_isRecordOf_81 : decode cX6_isRecordOf 81 = .ok (.iaload, 1) := by decide +kernel
theorem dX6_isRecordOf_82 : decode cX6_isRecordOf 82 = .ok (.iconst 4, 1) := by decide +kernel
theorem dX6_isRecordOf_83 : decode cX6_isRecordOf 83 = .ok (.if_icmp .ne 33, 3) := by decide +kernel
theorem dX6_isRecordOf_86 : decode cX6_isRecordOf 86 = .ok (.iinc 3 1, 3) := by decide +kernel
theorem dX6_isRecordOf_89 : decode cX6_isRecordOf 89 = .ok (.aload_n 0, 1) := by decide +kernel
theorem dX6_isRecordOf_90 : decode cX6_isRecordOf 90 = .ok (.getfield 59, 3) := by decide +kernel
theorem dX6_isRecordOf_93 : decode cX6_isRecordOf 93 = .ok (.iload_n 3, 1) := by decide +kernel
theorem dX6_isRecordOf_94 : decode cX6_isRecordOf 94 = .ok (.aload_n 0, 1) := by decide +kernel
theorem dX6_isRecordOf_95 : decode cX6_isRecordOf 95 = .ok (.aload_n 0, 1) := by decide +kernel
theorem dX6_isRecordOf_96 : decode cX6_isRecordOf 96 = .ok (.getfield 16, 3) := by decide +kernel
theorem dX6_isRecordOf_99 : decode cX6_isRecordOf 99 = .ok (.iload 5, 2) := by decide +kernel
theorem dX6_isRecordOf_101 : decode cX6_isRecordOf 101 = .ok (.iaload, 1) := by decide +kernel
theorem dX6_isRecordOf_102 : decode cX6_isRecordOf 102 = .ok (.invokevirtual 90, 3) := by decide +kernel
theorem dX6_isRecordOf_105 : decode cX6_isRecordOf 105 = .ok (.iastore, 1) := by decide +kernel
theorem dX6_isRecordOf_106 : decode cX6_isRecordOf 106 = .ok (.aload_n 0, 1) := by decide +kernel
theorem dX6_isRecordOf_107 : decode cX6_isRecordOf 107 = .ok (.getfield 65, 3) := by decide +kernel
theorem dX6_isRecordOf_110 : decode cX6_isRecordOf 110 = .ok (.iload_n 3, 1) := by decide +kernel
theorem dX6_isRecordOf_111 : decode cX6_isRecordOf 111 = .ok (.iconst 0, 1) := by decide +kernel
theorem dX6_isRecordOf_112 : decode cX6_isRecordOf 112 = .ok (.iastore, 1) := by decide +kernel
theorem dX6_isRecordOf_113 : decode cX6_isRecordOf 113 = .ok (.goto 31, 3) := by decide +kernel
theorem dX6_isRecordOf_116 : decode cX6_isRecordOf 116 = .ok (.iload_n 2, 1) := by decide +kernel
theorem dX6_isRecordOf_117 : decode cX6_isRecordOf 117 = .ok (.aload_n 0, 1) := by decide +kernel
theorem dX6_isRecordOf_118 : decode cX6_isRecordOf 118 = .ok (.getfield 168, 3) := by decide +kernel
theorem dX6_isRecordOf_121 : decode cX6_isRecordOf 121 = .ok (.if_icmp .eq 18, 3) := by decide +kernel
theorem dX6_isRecordOf_124 : decode cX6_isRecordOf 124 = .ok (.aload_n 0, 1) := by decide +kernel
theorem dX6_isRecordOf_125 : decode cX6_isRecordOf 125 = .ok (.iload 5, 2) := by decide +kernel
theorem dX6_isRecordOf_127 : decode cX6_isRecordOf 127 = .ok (.aload_n 0, 1) := by decide +kernel
theorem dX6_isRecordOf_128 : decode cX6_isRecordOf 128 = .ok (.getfield 53, 3) := by decide +kernel
theorem dX6_isRecordOf_131 : decode cX6_isRecordOf 131 = .ok (.iload_n 2, 1) := by decide +kernel
theorem dX6_isRecordOf_132 : decode cX6_isRecordOf 132 = .ok (.iaload, 1) := by decide +kernel
theorem dX6_isRecordOf_133 : decode cX6_isRecordOf 133 = .ok (.invokevirtual 106, 3) := by decide +kernel
theorem dX6_isRecordOf_136 : decode cX6_isRecordOf 136 = .ok (.ifCond .ne 5, 3) := by decide +kernel
theorem dX6_isRecordOf_139 : decode cX6_isRecordOf 139 = .ok (.iconst 0, 1) := by decide +kernel
theorem dX6_isRecordOf_140 : decode cX6_isRecordOf 140 = .ok (.ireturn, 1) := by decide +kernel
theorem dX6_isRecordOf_141 : decode cX6_isRecordOf 141 = .ok (.iinc 2 1, 3) := by decide +kernel
theorem dX6_isRecordOf_144 : decode cX6_isRecordOf 144 = .ok (.goto (-126), 3) := by decide +kernel
theorem dX6_isRecordOf_147 : decode cX6_isRecordOf 147 = .ok (.iload_n 2, 1) := by decide +kernel
theorem dX6_isRecordOf_148 : decode cX6_isRecordOf 148 = .ok (.aload_n 0, 1) := by decide +kernel
theorem dX6_isRecordOf_149 : decode cX6_isRecordOf 149 = .ok (.getfield 168, 3) := by decide +kernel
theorem dX6_isRecordOf_152 : decode cX6_isRecordOf 152 = .ok (.if_icmp .ne 7, 3) := by decide +kernel
theorem dX6_isRecordOf_155 : decode cX6_isRecordOf 155 = .ok (.iconst 1, 1) := by decide +kernel
theorem dX6_isRecordOf_156 : decode cX6_isRecordOf 156 = .ok (.goto 4, 3) := by decide +kernel
theorem dX6_isRecordOf_159 : decode cX6_isRecordOf 159 = .ok (.iconst 0, 1) := by decide +kernel
theorem dX6_isRecordOf_160 : decode cX6_isRecordOf 160 = .ok (.ireturn, 1) := by decide +kernel
theorem dX6_isRecord_0 : decode cX6_isRecord 0 = .ok (.aload_n 0, 1) := by decide +kernel
theorem dX6_isRecord_1 : decode cX6_isRecord 1 = .ok (.iload_n 1, 1) := by decide +kernel
theorem dX6_isRecord_2 : decode cX6_isRecord 2 = .ok (.iload_n 2, 1) := by decide +kernel
theorem dX6_isRecord_3 : decode cX6_isRecord 3 = .ok (.invokevirtual 156, 3) := by decide +kernel
theorem dX6_isRecord_6 : decode cX6_isRecord 6 = .ok (.ifCond .eq 25, 3) := by decide +kernel
theorem dX6_isRecord_9 : decode cX6_isRecord 9 = .ok (.aload_n 0, 1) := by decide +kernel
theorem dX6_isRecord_10 : decode cX6_isRecord 10 = .ok (.aload_n 0, 1) := by decide +kernel
theorem dX6_isRecord_11 : decode cX6_isRecord 11 = .ok (.getfield 38, 3) := by decide +kernel
theorem dX6_isRecord_14 : decode cX6_isRecord 14 = .ok (.bipush 6, 2) := by decide +kernel
theorem dX6_isRecord_16 : decode cX6_isRecord 16 = .ok (.iload_n 1, 1) := by decide +kernel
theorem dX6_isRecord_17 : decode cX6_isRecord 17 = .ok (.imul, 1) := by decide +kernel
theorem dX6_isRecord_18 : decode cX6_isRecord 18 = .ok (.iload_n 2, 1) := by decide +kernel
theorem dX6_isRecord_19 : decode cX6_isRecord 19 = .ok (.iadd, 1) := by decide +kernel
theorem dX6_isRecord_20 : decode cX6_isRecord 20 = .ok (.iaload, 1) := by decide +kernel
theorem dX6_isRecord_21 : decode cX6_isRecord 21 = .ok (.invokevirtual 171, 3) := by decide +kernel
theorem dX6_isRecord_24 : decode cX6_isRecord 24 = .ok (.ifCond .eq 7, 3) := by decide +kernel
theorem dX6_isRecord_27 : decode cX6_isRecord 27 = .ok (.iconst 1, 1) := by decide +kernel
theorem dX6_isRecord_28 : decode cX6_isRecord 28 = .ok (.goto 4, 3) := by decide +kernel
theorem dX6_isRecord_31 : decode cX6_isRecord 31 = .ok (.iconst 0, 1) := by decide +kernel
theorem dX6_isRecord_32 : decode cX6_isRecord 32 = .ok (.ireturn, 1) := by decide +kernel
theorem dX6_ahead_0 : decode cX6_ahead 0 = .ok (.iconst 0, 1) := by decide +kernel
theorem dX6_ahead_1 : decode cX6_ahead 1 = .ok (.istore_n 3, 1) := by decide +kernel
theorem dX6_ahead_2 : decode cX6_ahead 2 = .ok (.iconst 0, 1) := by decide +kernel
theorem dX6_ahead_3 : decode cX6_ahead 3 = .ok (.istore 4, 2) := by decide +kernel
theorem dX6_ahead_5 : decode cX6_ahead 5 = .ok (.iload 4, 2) := by decide +kernel
theorem dX6_ahead_7 : decode cX6_ahead 7 = .ok (.iload_n 2, 1) := by decide +kernel
theorem dX6_ahead_8 : decode cX6_ahead 8 = .ok (.if_icmp .ge 51, 3) := by decide +kernel
theorem dX6_ahead_11 : decode cX6_ahead 11 = .ok (.iload_n 3, 1) := by decide +kernel
theorem dX6_ahead_12 : decode cX6_ahead 12 = .ok (.aload_n 0, 1) := by decide +kernel
theorem dX6_ahead_13 : decode cX6_ahead 13 = .ok (.getfield 13, 3) := by decide +kernel
theorem dX6_ahead_16 : decode cX6_ahead 16 = .ok (.iconst 5, 1) := by decide +kernel
theorem dX6_ahead_17 : decode cX6_ahead 17 = .ok (.iload_n 1, 1) := by decide +kernel
theorem dX6_ahead_18 : decode cX6_ahead 18 = .ok (.imul, 1) := by decide +kernel
theorem dX6_ahead_19 : decode cX6_ahead 19 = .ok (.iload 4, 2) := by decide +kernel
theorem dX6_ahead_21 : decode cX6_ahead 21 = .ok (.iadd, 1) := by decide +kernel
theorem dX6_ahead_22 : decode cX6_ahead 22 = .ok (.iaload, 1) := by decide +kernel
theorem dX6_ahead_23 : decode cX6_ahead 23 = .ok (.iconst 4, 1) := by decide +kernel
theorem dX6_ahead_24 : decode cX6_ahead 24 = .ok (.if_icmp .ne 26, 3) := by decide +kernel
theorem dX6_ahead_27 : decode cX6_ahead 27 = .ok (.aload_n 0, 1) := by decide +kernel
theorem dX6_ahead_28 : decode cX6_ahead 28 = .ok (.getfield 32, 3) := by decide +kernel
theorem dX6_ahead_31 : decode cX6_ahead 31 = .ok (.aload_n 0, 1) := by decide +kernel
theorem dX6_ahead_32 : decode cX6_ahead 32 = .ok (.aload_n 0, 1) := by decide +kernel
theorem dX6_ahead_33 : decode cX6_ahead 33 = .ok (.getfield 16, 3) := by decide +kernel
theorem dX6_ahead_36 : decode cX6_ahead 36 = .ok (.iconst 5, 1) := by decide +kernel
theorem dX6_ahead_37 : decode cX6_ahead 37 = .ok (.iload_n 1, 1) := by decide +kernel
theorem dX6_ahead_38 : decode cX6_ahead 38 = .ok (.imul, 1) := by decide +kernel
theorem dX6_ahead_39 : decode cX6_ahead 39 = .ok (.iload 4, 2) := by decide +kernel
theorem dX6_ahead_41 : decode cX6_ahead 41 = .ok (.iadd, 1) := by decide +kernel
theorem dX6_ahead_42 : decode cX6_ahead 42 = .ok (.iaload, 1) := by decide +kernel
theorem dX6_ahead_43 : decode cX6_ahead 43 = .ok (.invokevirtual 90, 3) := by decide +kernel
theorem dX6_ahead_46 : decode cX6_ahead 46 = .ok (.iaload, 1) := by decide +kernel
theorem dX6_ahead_47 : decode cX6_ahead 47 = .ok (.goto 4, 3) := by decide +kernel
theorem dX6_ahead_50 : decode cX6_ahead 50 = .ok (.iconst 1, 1) := by decide +kernel
theorem dX6_ahead_51 : decode cX6_ahead 51 = .ok (.iadd, 1) := by decide +kernel
theorem dX6_ahead_52 : decode cX6_ahead 52 = .ok (.istore_n 3, 1) := by decide +kernel
theorem dX6_ahead_53 : decode cX6_ahead 53 = .ok (.iinc 4 1, 3) := by decide +kernel
theorem dX6_ahead_56 : decode cX6_ahead 56 = .ok (.goto (-51), 3) := by decide +kernel
theorem dX6_ahead_59 : decode cX6_ahead 59 = .ok (.iload_n 3, 1) := by decide +kernel
theorem dX6_ahead_60 : decode cX6_ahead 60 = .ok (.ireturn, 1) := by decide +kernel
theorem dX6_reads_0 : decode cX6_reads 0 = .ok (.iconst 0, 1) := by decide +kernel
theorem dX6_reads_1 : decode cX6_reads 1 = .ok (.istore_n 3, 1) := by decide +kernel
theorem dX6_reads_2 : decode cX6_reads 2 = .ok (.iconst 0, 1) := by decide +kernel
theorem dX6_reads_3 : decode cX6_reads 3 = .ok (.istore 4, 2) := by decide +kernel
theorem dX6_reads_5 : decode cX6_reads 5 = .ok (.aload_n 0, 1) := by decide +kernel
theorem dX6_reads_6 : decode cX6_reads 6 = .ok (.getfield 59, 3) := by decide +kernel
theorem dX6_reads_9 : decode cX6_reads 9 = .ok (.iconst 0, 1) := by decide +kernel
theorem dX6_reads_10 : decode cX6_reads 10 = .ok (.iload_n 1, 1) := by decide +kernel
theorem dX6_reads_11 : decode cX6_reads 11 = .ok (.iastore, 1) := by decide +kernel
theorem dX6_reads_12 : decode cX6_reads 12 = .ok (.aload_n 0, 1) := by decide +kernel
theorem dX6_reads_13 : decode cX6_reads 13 = .ok (.getfield 62, 3) := by decide +kernel
theorem dX6_reads_16 : decode cX6_reads 16 = .ok (.iconst 0, 1) := by decide +kernel
theorem dX6_reads_17 : decode cX6_reads 17 = .ok (.iload_n 2, 1) := by decide +kernel
theorem dX6_reads_18 : decode cX6_reads 18 = .ok (.iastore, 1) := by decide +kernel
theorem dX6_reads_19 : decode cX6_reads 19 = .ok (.aload_n 0, 1) := by decide +kernel
theorem dX6_reads_20 : decode cX6_reads 20 = .ok (.getfield 65, 3) := by decide +kernel
theorem dX6_reads_23 : decode cX6_reads 23 = .ok (.iconst 0, 1) := by decide +kernel
theorem dX6_reads_24 : decode cX6_reads 24 = .ok (.iconst 0, 1) := by decide +kernel
theorem dX6_reads_25 : decode cX6_reads 25 = .ok (.iastore, 1) := by decide +kernel
theorem dX6_reads_26 : decode cX6_reads 26 = .ok (.aload_n 0, 1) := by decide +kernel
theorem dX6_reads_27 : decode cX6_reads 27 = .ok (.getfield 68, 3) := by decide +kernel
theorem dX6_reads_30 : decode cX6_reads 30 = .ok (.iconst 0, 1) := by decide +kernel
theorem dX6_reads_31 : decode cX6_reads 31 = .ok (.iconst 0, 1) := by decide +kernel
theorem dX6_reads_32 : decode cX6_reads 32 = .ok (.iastore, 1) := by decide +kernel
theorem dX6_reads_33 : decode cX6_reads 33 = .ok (.iload 4, 2) := by decide +kernel
theorem dX6_reads_35 : decode cX6_reads 35 = .ok (.ifCond .lt 376, 3) := by decide +kernel
theorem dX6_reads_38 : decode cX6_reads 38 = .ok (.aload_n 0, 1) := by decide +kernel
theorem dX6_reads_39 : decode cX6_reads 39 = .ok (.getfield 59, 3) := by decide +kernel
theorem dX6_reads_42 : decode cX6_reads 42 = .ok (.iload 4, 2) := by decide +kernel
theorem dX6_reads_44 : decode cX6_reads 44 = .ok (.iaload, 1) := by decide +kernel
theorem dX6_reads_45 : decode cX6_reads 45 = .ok (.istore 5, 2) := by decide +kernel
theorem dX6_reads_47 : decode cX6_reads 47 = .ok (.aload_n 0, 1) := by decide +kernel
theorem dX6_reads_48 : decode cX6_reads 48 = .ok (.getfield 65, 3) := by decide +kernel
theorem dX6_reads_51 : decode cX6_reads 51 = .ok (.iload 4, 2) := by decide +kernel
theorem dX6_reads_53 : decode cX6_reads 53 = .ok (.iaload, 1) := by decide +kernel
theorem dX6_reads_54 : decode cX6_reads 54 = .ok (.aload_n 0, 1) := by decide +kernel
theorem dX6_reads_55 : decode cX6_reads 55 = .ok (.getfield 29, 3) := by decide +kernel
theorem dX6_reads_58 : decode cX6_reads 58 = .ok (.iload 5, 2) := by decide +kernel
theorem dX6_reads_60 : decode cX6_reads 60 = .ok (.iaload, 1) := by decide +kernel
theorem dX6_reads_61 : decode cX6_reads 61 = .ok (.if_icmp .ne 9, 3) := by decide +kernel
theorem dX6_reads_64 : decode cX6_reads 64 = .ok (.iinc 4 (-1), 3) := by decide +kernel
theorem dX6_reads_67 : decode cX6_reads 67 = .ok (.goto 341, 3) := by decide +kernel
theorem dX6_reads_70 : decode cX6_reads 70 = .ok (.iconst 5, 1) := by decide +kernel
theorem dX6_reads_71 : decode cX6_reads 71 = .ok (.iload 5, 2) := by decide +kernel
theorem dX6_reads_73 : decode cX6_reads 73 = .ok (.imul, 1) := by decide +kernel
theorem dX6_reads_74 : decode cX6_reads 74 = .ok (.aload_n 0, 1) := by decide +kernel
theorem dX6_reads_75 : decode cX6_reads 75 = .ok (.getfield 65, 3) := by decide +kernel
theorem dX6_reads_78 : decode cX6_reads 78 = .ok (.iload 4, 2) := by decide +kernel
theorem dX6_reads_80 : decode cX6_reads 80 = .ok (.iaload, 1) := by decide +kernel
theorem dX6_reads_81 : decode cX6_reads 81 = .ok (.iadd, 1) := by decide +kernel
theorem dX6_reads_82 : decode cX6_reads 82 = .ok (.istore 6, 2) := by decide +kernel
theorem dX6_reads_84 : decode cX6_reads 84 = .ok (.aload_n 0, 1) := by decide +kernel
theorem dX6_reads_85 : decode cX6_reads 85 = .ok (.iload 6, 2) := by decide +kernel
theorem dX6_reads_87 : decode cX6_reads 87 = .ok (.aload_n 0, 1) := by decide +kernel
theorem dX6_reads_88 : decode cX6_reads 88 = .ok (.getfield 62, 3) := by decide +kernel
theorem dX6_reads_91 : decode cX6_reads 91 = .ok (.iload 4, 2) := by decide +kernel
theorem dX6_reads_93 : decode cX6_reads 93 = .ok (.iaload, 1) := by decide +kernel
theorem dX6_reads_94 : decode cX6_reads 94 = .ok (.invokevirtual 112, 3) := by decide +kernel
theorem dX6_reads_97 : decode cX6_reads 97 = .ok (.istore 7, 2) := by decide +kernel
theorem dX6_reads_99 : decode cX6_reads 99 = .ok (.iconst 5, 1) := by decide +kernel
theorem dX6_reads_100 : decode cX6_reads 100 = .ok (.aload_n 0, 1) := by decide +kernel
theorem dX6_reads_101 : decode cX6_reads 101 = .ok (.getfield 62, 3) := by decide +kernel
theorem dX6_reads_104 : decode cX6_reads 104 = .ok (.iload 4, 2) := by decide +kernel
theorem dX6_reads_106 : decode cX6_reads 106 = .ok (.iaload, 1) := by decide +kernel
theorem dX6_reads_107 : decode cX6_reads 107 = .ok (.imul, 1) := by decide +kernel
theorem dX6_reads_108 : decode cX6_reads 108 = .ok (.iload 7, 2) := by decide +kernel
theorem dX6_reads_110 : decode cX6_reads 110 = .ok (.iadd, 1) := by decide +kernel
theorem dX6_reads_111 : decode cX6_reads 111 = .ok (.istore 8, 2) := by decide +kernel
theorem dX6_reads_113 : decode cX6_reads 113 = .ok (.iload 7, 2) := by decide +kernel
theorem dX6_reads_115 : decode cX6_reads 115 = .ok (.iconst (-1), 1) := by decide +kernel
theorem dX6_reads_116 : decode cX6_reads 116 = .ok (.if_icmp .ne 7, 3) := by decide +kernel
theorem dX6_reads_119 : decode cX6_reads 119 = .ok (.iconst 0, 1) := by decide +kernel
theorem dX6_reads_120 : decode cX6_reads 120 = .ok (.goto 24, 3) := by decide +kernel
theorem dX6_reads_123 : decode cX6_reads 123 = .ok (.aload_n 0, 1) := by decide +kernel
theorem dX6_reads_124 : decode cX6_reads 124 = .ok (.getfield 68, 3) := by decide +kernel
theorem dX6_reads_127 : decode cX6_reads 127 = .ok (.iload 4, 2) := by decide +kernel
theorem dX6_reads_129 : decode cX6_reads 129 = .ok (.iaload, 1) := by decide +kernel
theorem dX6_reads_130 : decode cX6_reads 130 = .ok (.aload_n 0, 1) := by decide +kernel
theorem dX6_reads_131 : decode cX6_reads 131 = .ok (.aload_n 0, 1) := by decide +kernel
theorem dX6_reads_132 : decode cX6_reads 132 = .ok (.getfield 62, 3) := by decide +kernel
theorem dX6_reads_135 : decode cX6_reads 135 = .ok (.iload 4, 2) := by decide +kernel
theorem dX6_reads_137 : decode cX6_reads 137 = .ok (.iaload, 1) := by decide +kernel
theorem dX6_reads_138 : decode cX6_reads 138 = .ok (.iload 7, 2) := by decide +kernel
theorem dX6_reads_140 : decode cX6_reads 140 = .ok (.invokevirtual 174, 3) := by decide +kernel
theorem dX6_reads_143 : decode cX6_reads 143 = .ok (.iadd, 1) := by decide +kernel
theorem dX6_reads_144 : decode cX6_reads 144 = .ok (.istore 9, 2) := by decide +kernel
theorem dX6_reads_146 : decode cX6_reads 146 = .ok (.aload_n 0, 1) := by decide +kernel
theorem dX6_reads_147 : decode cX6_reads 147 = .ok (.getfield 65, 3) := by decide +kernel
theorem dX6_reads_150 : decode cX6_reads 150 = .ok (.iload 4, 2) := by decide +kernel
theorem dX6_reads_152 : decode cX6_reads 152 = .ok (.dup2, 1) := by decide +kernel
theorem dX6_reads_153 : decode cX6_reads 153 = .ok (.iaload, 1) := by decide +kernel
theorem dX6_reads_154 : decode cX6_reads 154 = .ok (.iconst 1, 1) := by decide +kernel
theorem dX6_reads_155 : decode cX6_reads 155 = .ok (.iadd, 1) := by decide +kernel
theorem dX6_reads_156 : decode cX6_reads 156 = .ok (.iastore, 1) := by decide +kernel
theorem dX6_reads_157 : decode cX6_reads 157 = .ok (.iload 7, 2) := by decide +kernel
theorem dX6_reads_159 : decode cX6_reads 159 = .ok (.iconst (-1), 1) := by decide +kernel
theorem dX6_reads_160 : decode cX6_reads 160 = .ok (.if_icmp .ne 34, 3) := by decide +kernel
theorem dX6_reads_163 : decode cX6_reads 163 = .ok (.aload_n 0, 1) := by decide +kernel
theorem dX6_reads_164 : decode cX6_reads 164 = .ok (.getfield 22, 3) := by decide +kernel
theorem dX6_reads_167 : decode cX6_reads 167 = .ok (.iload 6, 2) := by decide +kernel
theorem dX6_reads_169 : decode cX6_reads 169 = .ok (.baload, 1) := by decide +kernel
theorem dX6_reads_170 : decode cX6_reads 170 = .ok (.ifCond .ne 5, 3) := by decide +kernel
theorem dX6_reads_173 : decode cX6_reads 173 = .ok (.iconst (-1), 1) := by decide +kernel
theorem dX6_reads_174 : decode cX6_reads 174 = .ok (.ireturn, 1) := by decide +kernel
theorem dX6_reads_175 : decode cX6_reads 175 = .ok (.aload_n 0, 1) := by decide +kernel
theorem dX6_reads_176 : decode cX6_reads 176 = .ok (.getfield 56, 3) := by decide +kernel
theorem dX6_reads_179 : decode cX6_reads 179 = .ok (.iload_n 3, 1) := by decide +kernel
theorem dX6_reads_180 : decode cX6_reads 180 = .ok (.aload_n 0, 1) := by decide +kernel
theorem dX6_reads_181 : decode cX6_reads 181 = .ok (.getfield 26, 3) := by decide +kernel
theorem dX6_reads_184 : decode cX6_reads 184 = .ok (.iload 6, 2) := by decide +kernel
theorem dX6_reads_186 : decode cX6_reads 186 = .ok (.iaload, 1) := by decide +kernel
theorem dX6_reads_187 : decode cX6_reads 187 = .ok (.iastore, 1) := by decide +kernel
theorem dX6_reads_188 : decode cX6_reads 188 = .ok (.iinc 3 1, 3) := by decide +kernel
theorem dX6_reads_191 : decode cX6_reads 191 = .ok (.goto 217, 3) := by decide +kernel
theorem dX6_reads_194 : decode cX6_reads 194 = .ok (.aload_n 0, 1) := by decide +kernel
theorem dX6_reads_195 : decode cX6_reads 195 = .ok (.getfield 13, 3) := by decide +kernel
theorem dX6_reads_198 : decode cX6_reads 198 = .ok (.iload 6, 2) := by decide +kernel
theorem dX6_reads_200 : decode cX6_reads 200 = .ok (.iaload, 1) := by decide +kernel
theorem dX6_reads_201 : decode cX6_reads 201 = .ok (.iconst 4, 1) := by decide +kernel
theorem dX6_reads_202 : decode cX6_reads 202 = .ok (.if_icmp .ne 73, 3) := by decide +kernel
theorem dX6_reads_205 : decode cX6_reads 205 = .ok (.aload_n 0, 1) := by decide +kernel
theorem dX6_reads_206 : decode cX6_reads 206 = .ok (.getfield 13, 3) := by decide +kernel
theorem dX6_reads_209 : decode cX6_reads 209 = .ok (.iload 8, 2) := by decide +kernel
theorem dX6_reads_211 : decode cX6_reads 211 = .ok (.iaload, 1) := by decide +kernel
theorem dX6_reads_212 : decode cX6_reads 212 = .ok (.iconst 4, 1) := by decide +kernel
theorem dX6_reads_213 : decode cX6_reads 213 = .ok (.if_icmp .ne 62, 3) := by decide +kernel
theorem dX6_reads_216 : decode cX6_reads 216 = .ok (.iinc 4 1, 3) := by decide +kernel
theorem dX6_reads_219 : decode cX6_reads 219 = .ok (.aload_n 0, 1) := by decide +kernel
theorem dX6_reads_220 : decode cX6_reads 220 = .ok (.getfield 59, 3) := by decide +kernel
theorem dX6_reads_223 : decode cX6_reads 223 = .ok (.iload 4, 2) := by decide +kernel
theorem dX6_reads_225 : decode cX6_reads 225 = .ok (.aload_n 0, 1) := by decide +kernel
theorem dX6_reads_226 : decode cX6_reads 226 = .ok (.aload_n 0, 1) := by decide +kernel
theorem dX6_reads_227 : decode cX6_reads 227 = .ok (.getfield 16, 3) := by decide +kernel
theorem dX6_reads_230 : decode cX6_reads 230 = .ok (.iload 6, 2) := by decide +kernel
theorem dX6_reads_232 : decode cX6_reads 232 = .ok (.iaload, 1) := by decide +kernel
theorem dX6_reads_233 : decode cX6_reads 233 = .ok (.invokevirtual 90, 3) := by decide +kernel
theorem dX6_reads_236 : decode cX6_reads 236 = .ok (.iastore, 1) := by decide +kernel
theorem dX6_reads_237 : decode cX6_reads 237 = .ok (.aload_n 0, 1) := by decide +kernel
theorem dX6_reads_238 : decode cX6_reads 238 = .ok (.getfield 62, 3) := by decide +kernel
theorem dX6_reads_241 : decode cX6_reads 241 = .ok (.iload 4, 2) := by decide +kernel
theorem dX6_reads_243 : decode cX6_reads 243 = .ok (.aload_n 0, 1) := by decide +kernel
theorem dX6_reads_244 : decode cX6_reads 244 = .ok (.aload_n 0, 1) := by decide +kernel
theorem dX6_reads_245 : decode cX6_reads 245 = .ok (.getfield 16, 3) := by decide +kernel
theorem dX6_reads_248 : decode cX6_reads 248 = .ok (.iload 8, 2) := by decide +kernel
theorem dX6_reads_250 : decode cX6_reads 250 = .ok (.iaload, 1) := by decide +kernel
theorem dX6_reads_251 : decode cX6_reads 251 = .ok (.invokevirtual 90, 3) := by decide +kernel
theorem dX6_reads_254 : decode cX6_reads 254 = .ok (.iastore, 1) := by decide +kernel
theorem dX6_reads_255 : decode cX6_reads 255 = .ok (.aload_n 0, 1) := by decide +kernel
theorem dX6_reads_256 : decode cX6_reads 256 = .ok (.getfield 65, 3) := by decide +kernel
theorem dX6_reads_259 : decode cX6_reads 259 = .ok (.iload 4, 2) := by decide +kernel
theorem dX6_reads_261 : decode cX6_reads 261 = .ok (.iconst 0, 1) := by decide +kernel
theorem dX6_reads_262 : decode cX6_reads 262 = .ok (.iastore, 1) := by decide +kernel
theorem dX6_reads_263 : decode cX6_reads 263 = .ok (.aload_n 0, 1) := by decide +kernel
theorem dX6_reads_264 : decode cX6_reads 264 = .ok (.getfield 68, 3) := by decide +kernel
theorem dX6_reads_267 : decode cX6_reads 267 = .ok (.iload 4, 2) := by decide +kernel
theorem dX6_reads_269 : decode cX6_reads 269 = .ok (.iload 9, 2) := by decide +kernel
theorem dX6_reads_271 : decode cX6_reads 271 = .ok (.iastore, 1) := by decide +kernel
theorem dX6_reads_272 : decode cX6_reads 272 = .ok (.goto 136, 3) := by decide +kernel
theorem dX6_reads_275 : decode cX6_reads 275 = .ok (.aload_n 0, 1) := by decide +kernel
theorem dX6_reads_276 : decode cX6_reads 276 = .ok (.getfield 13, 3) := by decide +kernel
theorem dX6_reads_279 : decode cX6_reads 279 = .ok (.iload 6, 2) := by decide +kernel
theorem dX6_reads_281 : decode cX6_reads 281 = .ok (.iaload, 1) := by decide +kernel
theorem dX6_reads_282 : decode cX6_reads 282 = .ok (.aload_n 0, 1) := by decide +kernel
theorem dX6_reads_283 : decode cX6_reads 283 = .ok (.getfield 13, 3) := by decide +kernel
theorem dX6_reads_286 : decode cX6_reads 286 = .ok (.iload 8, 2) := by decide +kernel
theorem dX6_reads_288 : decode cX6_reads 288 = .ok (.iaload, 1) := by decide +kernel
theorem dX6_reads_289 : decode cX6_reads 289 = .ok (.if_icmp .eq 24, 3) := by decide +kernel
theorem dX6_reads_292 : decode cX6_reads 292 = .ok (.aload_n 0, 1) := by decide +kernel
theorem dX6_reads_293 : decode cX6_reads 293 = .ok (.getfield 13, 3) := by decide +kernel
theorem dX6_reads_296 : decode cX6_reads 296 = .ok (.iload 6, 2) := by decide +kernel
theorem dX6_reads_298 : decode cX6_reads 298 = .ok (.iaload, 1) := by decide +kernel
theorem dX6_reads_299 : decode cX6_reads 299 = .ok (.iconst 1, 1) := by decide +kernel
theorem dX6_reads_300 : decode cX6_reads 300 = .ok (.if_icmp .ne 17, 3) := by decide +kernel
theorem dX6_reads_303 : decode cX6_reads 303 = .ok (.aload_n 0, 1) := by decide +kernel
theorem dX6_reads_304 : decode cX6_reads 304 = .ok (.getfield 13, 3) := by decide +kernel
theorem dX6_reads_307 : decode cX6_reads 307 = .ok (.iload 8, 2) := by decide +kernel
theorem dX6_reads_309 : decode cX6_reads 309 = .ok (.iaload, 1) := by decide +kernel
theorem dX6_reads_310 : decode cX6_reads 310 = .ok (.ifCond .ne 7, 3) := by decide +kernel
theorem dX6_reads_313 : decode cX6_reads 313 = .ok (.iconst 1, 1) := by decide +kernel
theorem dX6_reads_314 : decode cX6_reads 314 = .ok (.goto 4, 3) := by decide +kernel
theorem dX6_reads_317 : decode cX6_reads 317 = .ok (.iconst 0, 1) := by decide +kernel
theorem dX6_reads_318 : decode cX6_reads 318 = .ok (.istore 10, 2) := by decide +kernel
theorem dX6_reads_320 : decode cX6_reads 320 = .ok (.aload_n 0, 1) := by decide +kernel
theorem dX6_reads_321 : decode cX6_reads 321 = .ok (.getfield 13, 3) := by decide +kernel
theorem dX6_reads_324 : decode cX6_reads 324 = .ok (.iload 6, 2) := by decide +kernel
theorem dX6_reads_326 : decode cX6_reads 326 = .ok (.iaload, 1) := by decide +kernel
theorem dX6_reads_327 : decode cX6_reads 327 = .ok (.iconst 3, 1) := by decide +kernel
theorem dX6_reads_328 : decode cX6_reads 328 = .ok (.if_icmp .ne 20, 3) := by decide +kernel
theorem dX6_reads_331 : decode cX6_reads 331 = .ok (.aload_n 0, 1) := by decide +kernel
theorem dX6_reads_332 : decode cX6_reads 332 = .ok (.getfield 53, 3) := by decide +kernel
theorem dX6_reads_335 : decode cX6_reads 335 = .ok (.iload 9, 2) := by decide +kernel
theorem dX6_reads_337 : decode cX6_reads 337 = .ok (.iaload, 1) := by decide +kernel
theorem dX6_reads_338 : decode cX6_reads 338 = .ok (.aload_n 0, 1) := by decide +kernel
theorem dX6_reads_339 : decode cX6_reads 339 = .ok (.getfield 16, 3) := by decide +kernel
theorem dX6_reads_342 : decode cX6_reads 342 = .ok (.iload 6, 2) := by decide +kernel
theorem dX6_reads_344 : decode cX6_reads 344 = .ok (.iaload, 1) := by decide +kernel
theorem dX6_reads_345 : decode cX6_reads 345 = .ok (.if_icmp .ge 7, 3) := by decide +kernel
theorem dX6_reads_348 : decode cX6_reads 348 = .ok (.iconst 1, 1) := by decide +kernel
theorem dX6_reads_349 : decode cX6_reads 349 = .ok (.goto 4, 3) := by decide +kernel
theorem dX6_reads_352 : decode cX6_reads 352 = .ok (.iconst 0, 1) := by decide +kernel
theorem dX6_reads_353 : decode cX6_reads 353 = .ok (.istore 11, 2) := by decide +kernel
theorem dX6_reads_355 : decode cX6_reads 355 = .ok (.iload 10, 2) := by decide +kernel
theorem dX6_reads_357 : decode cX6_reads 357 = .ok (.ifCond .eq 18, 3) := by decide +kernel
theorem dX6_reads_360 : decode cX6_reads 360 = .ok (.iload 11, 2) := by decide +kernel
theorem dX6_reads_362 : decode cX6_reads 362 = .ok (.ifCond .ne 15, 3) := by decide +kernel
theorem dX6_reads_365 : decode cX6_reads 365 = .ok (.aload_n 0, 1) := by decide +kernel
theorem dX6_reads_366 : decode cX6_reads 366 = .ok (.getfield 22, 3) := by decide +kernel
theorem dX6_reads_369 : decode cX6_reads 369 = .ok (.iload 6, 2) := by decide +kernel
theorem dX6_reads_371 : decode cX6_reads 371 = .ok (.baload, 1) := by decide +kernel
theorem dX6_reads_372 : decode cX6_reads 372 = .ok (.ifCond .ne 5, 3) := by decide +kernel
theorem dX6_reads_375 : decode cX6_reads 375 = .ok (.iconst (-1), 1) := by decide +kernel
theorem dX6_reads_376 : decode cX6_reads 376 = .ok (.ireturn, 1) := by decide +kernel
theorem dX6_reads_377 : decode cX6_reads 377 = .ok (.aload_n 0, 1) := by decide +kernel
theorem dX6_reads_378 : decode cX6_reads 378 = .ok (.getfield 56, 3) := by decide +kernel
theorem dX6_reads_381 : decode cX6_reads 381 = .ok (.iload_n 3, 1) := by decide +kernel
theorem dX6_reads_382 : decode cX6_reads 382 = .ok (.iload 11, 2) := by decide +kernel
theorem dX6_reads_384 : decode cX6_reads 384 = .ok (.ifCond .eq 13, 3) := by decide +kernel
theorem dX6_reads_387 : decode cX6_reads 387 = .ok (.aload_n 0, 1) := by decide +kernel
theorem dX6_reads_388 : decode cX6_reads 388 = .ok (.getfield 53, 3) := by decide +kernel
theorem dX6_reads_391 : decode cX6_reads 391 = .ok (.iload 9, 2) := by decide +kernel
theorem dX6_reads_393 : decode cX6_reads 393 = .ok (.iaload, 1) := by decide +kernel
theorem dX6_reads_394 : decode cX6_reads 394 = .ok (.goto 10, 3) := by decide +kernel
theorem dX6_reads_397 : decode cX6_reads 397 = .ok (.aload_n 0, 1) := by decide +kernel
theorem dX6_reads_398 : decode cX6_reads 398 = .ok (.getfield 26, 3) := by decide +kernel
theorem dX6_reads_401 : decode cX6_reads 401 = .ok (.iload 6, 2) := by decide +kernel
theorem dX6_reads_403 : decode cX6_reads 403 = .ok (.iaload, 1) := by decide +kernel
theorem dX6_reads_404 : decode cX6_reads 404 = .ok (.iastore, 1) := by decide +kernel
theorem dX6_reads_405 : decode cX6_reads 405 = .ok (.iinc 3 1, 3) := by decide +kernel
theorem dX6_reads_408 : decode cX6_reads 408 = .ok (.goto (-375), 3) := by decide +kernel
theorem dX6_reads_411 : decode cX6_reads 411 = .ok (.iload_n 3, 1) := by decide +kernel
theorem dX6_reads_412 : decode cX6_reads 412 = .ok (.ireturn, 1) := by decide +kernel
theorem dX6_read_0 : decode cX6_read 0 = .ok (.aload_n 0, 1) := by decide +kernel
theorem dX6_read_1 : decode cX6_read 1 = .ok (.iload_n 1, 1) := by decide +kernel
theorem dX6_read_2 : decode cX6_read 2 = .ok (.iload_n 2, 1) := by decide +kernel
theorem dX6_read_3 : decode cX6_read 3 = .ok (.iload_n 3, 1) := by decide +kernel
theorem dX6_read_4 : decode cX6_read 4 = .ok (.iload 4, 2) := by decide +kernel
theorem dX6_read_6 : decode cX6_read 6 = .ok (.invokevirtual 159, 3) := by decide +kernel
theorem dX6_read_9 : decode cX6_read 9 = .ok (.istore 5, 2) := by decide +kernel
theorem dX6_read_11 : decode cX6_read 11 = .ok (.iconst 0, 1) := by decide +kernel
theorem dX6_read_12 : decode cX6_read 12 = .ok (.istore 6, 2) := by decide +kernel
theorem dX6_read_14 : decode cX6_read 14 = .ok (.iload 5, 2) := by decide +kernel
theorem dX6_read_16 : decode cX6_read 16 = .ok (.ifCond .ne 49, 3) := by decide +kernel
theorem dX6_read_19 : decode cX6_read 19 = .ok (.aload_n 0, 1) := by decide +kernel
theorem dX6_read_20 : decode cX6_read 20 = .ok (.getfield 38, 3) := by decide +kernel
theorem dX6_read_23 : decode cX6_read 23 = .ok (.bipush 6, 2) := by decide +kernel
theorem dX6_read_25 : decode cX6_read 25 = .ok (.iload_n 3, 1) := by decide +kernel
theorem dX6_read_26 : decode cX6_read 26 = .ok (.imul, 1) := by decide +kernel
theorem dX6_read_27 : decode cX6_read 27 = .ok (.iload 4, 2) := by decide +kernel
theorem dX6_read_29 : decode cX6_read 29 = .ok (.iadd, 1) := by decide +kernel
theorem dX6_read_30 : decode cX6_read 30 = .ok (.iaload, 1) := by decide +kernel
theorem dX6_read_31 : decode cX6_read 31 = .ok (.istore 7, 2) := by decide +kernel
theorem dX6_read_33 : decode cX6_read 33 = .ok (.aload_n 0, 1) := by decide +kernel
theorem dX6_read_34 : decode cX6_read 34 = .ok (.iload 7, 2) := by decide +kernel
theorem dX6_read_36 : decode cX6_read 36 = .ok (.invokevirtual 171, 3) := by decide +kernel
theorem dX6_read_39 : decode cX6_read 39 = .ok (.ifCond .eq 23, 3) := by decide +kernel
theorem dX6_read_42 : decode cX6_read 42 = .ok (.aload_n 0, 1) := by decide +kernel
theorem dX6_read_43 : decode cX6_read 43 = .ok (.aload_n 0, 1) := by decide +kernel
theorem dX6_read_44 : decode cX6_read 44 = .ok (.getfield 38, 3) := by decide +kernel
theorem dX6_read_47 : decode cX6_read 47 = .ok (.bipush 6, 2) := by decide +kernel
theorem dX6_read_49 : decode cX6_read 49 = .ok (.iload_n 1, 1) := by decide +kernel
theorem dX6_read_50 : decode cX6_read 50 = .ok (.imul, 1) := by decide +kernel
theorem dX6_read_51 : decode cX6_read 51 = .ok (.iload_n 2, 1) := by decide +kernel
theorem dX6_read_52 : decode cX6_read 52 = .ok (.iadd, 1) := by decide +kernel
theorem dX6_read_53 : decode cX6_read 53 = .ok (.iaload, 1) := by decide +kernel
theorem dX6_read_54 : decode cX6_read 54 = .ok (.iload 7, 2) := by decide +kernel
theorem dX6_read_56 : decode cX6_read 56 = .ok (.invokevirtual 177, 3) := by decide +kernel
theorem dX6_read_59 : decode cX6_read 59 = .ok (.goto 4, 3) := by decide +kernel
theorem dX6_read_62 : decode cX6_read 62 = .ok (.iconst (-1), 1) := by decide +kernel
theorem dX6_read_63 : decode cX6_read 63 = .ok (.istore 6, 2) := by decide +kernel
theorem dX6_read_65 : decode cX6_read 65 = .ok (.aload_n 0, 1) := by decide +kernel
theorem dX6_read_66 : decode cX6_read 66 = .ok (.iload 5, 2) := by decide +kernel
theorem dX6_read_68 : decode cX6_read 68 = .ok (.ifCond .le 8, 3) := by decide +kernel
theorem dX6_read_71 : decode cX6_read 71 = .ok (.iload 5, 2) := by decide +kernel
theorem dX6_read_73 : decode cX6_read 73 = .ok (.goto 14, 3) := by decide +kernel
theorem dX6_read_76 : decode cX6_read 76 = .ok (.iload 6, 2) := by decide +kernel
theorem dX6_read_78 : decode cX6_read 78 = .ok (.iconst (-1), 1) := by decide +kernel
theorem dX6_read_79 : decode cX6_read 79 = .ok (.if_icmp .ne 7, 3) := by decide +kernel
theorem dX6_read_82 : decode cX6_read 82 = .ok (.iconst 3, 1) := by decide +kernel
theorem dX6_read_83 : decode cX6_read 83 = .ok (.goto 4, 3) := by decide +kernel
theorem dX6_read_86 : decode cX6_read 86 = .ok (.iconst 0, 1) := by decide +kernel
theorem dX6_read_87 : decode cX6_read 87 = .ok (.invokevirtual 102, 3) := by decide +kernel
theorem dX6_read_90 : decode cX6_read 90 = .ok (.ifCond .ne 5, 3) := by decide +kernel
theorem dX6_read_93 : decode cX6_read 93 = .ok (.iconst 0, 1) := by decide +kernel
theorem dX6_read_94 : decode cX6_read 94 = .ok (.ireturn, 1) := by decide +kernel
theorem dX6_read_95 : decode cX6_read 95 = .ok (.iconst 0, 1) := by decide +kernel
theorem dX6_read_96 : decode cX6_read 96 = .ok (.istore 7, 2) := by decide +kernel
theorem dX6_read_98 : decode cX6_read 98 = .ok (.iload 7, 2) := by decide +kernel
theorem dX6_read_100 : decode cX6_read 100 = .ok (.iload 6, 2) := by decide +kernel
theorem dX6_read_102 : decode cX6_read 102 = .ok (.if_icmp .ge 23, 3) := by decide +kernel
theorem dX6_read_105 : decode cX6_read 105 = .ok (.aload_n 0, 1) := by decide +kernel
theorem dX6_read_106 : decode cX6_read 106 = .ok (.getfield 53, 3) := by decide +kernel
theorem dX6_read_109 : decode cX6_read 109 = .ok (.iload 7, 2) := by decide +kernel
theorem dX6_read_111 : decode cX6_read 111 = .ok (.aload_n 0, 1) := by decide +kernel
theorem dX6_read_112 : decode cX6_read 112 = .ok (.getfield 56, 3) := by decide +kernel
theorem dX6_read_115 : decode cX6_read 115 = .ok (.iload 7, 2) := by decide +kernel
theorem dX6_read_117 : decode cX6_read 117 = .ok (.iaload, 1) := by decide +kernel
theorem dX6_read_118 : decode cX6_read 118 = .ok (.iastore, 1) := by decide +kernel
theorem dX6_read_119 : decode cX6_read 119 = .ok (.iinc 7 1, 3) := by decide +kernel
theorem dX6_read_122 : decode cX6_read 122 = .ok (.goto (-24), 3) := by decide +kernel
theorem dX6_read_125 : decode cX6_read 125 = .ok (.aload_n 0, 1) := by decide +kernel
theorem dX6_read_126 : decode cX6_read 126 = .ok (.iload 6, 2) := by decide +kernel
theorem dX6_read_128 : decode cX6_read 128 = .ok (.putfield 168, 3) := by decide +kernel
theorem dX6_read_131 : decode cX6_read 131 = .ok (.iload 6, 2) := by decide +kernel
theorem dX6_read_133 : decode cX6_read 133 = .ok (.ireturn, 1) := by decide +kernel
theorem dX6_valueAt_0 : decode cX6_valueAt 0 = .ok (.aload_n 0, 1) := by decide +kernel
theorem dX6_valueAt_1 : decode cX6_valueAt 1 = .ok (.iload_n 1, 1) := by decide +kernel
theorem dX6_valueAt_2 : decode cX6_valueAt 2 = .ok (.iconst 0, 1) := by decide +kernel
theorem dX6_valueAt_3 : decode cX6_valueAt 3 = .ok (.aload_n 0, 1) := by decide +kernel
theorem dX6_valueAt_4 : decode cX6_valueAt 4 = .ok (.getfield 168, 3) := by decide +kernel
theorem dX6_valueAt_7 : decode cX6_valueAt 7 = .ok (.iconst 1, 1) := by decide +kernel
theorem dX6_valueAt_8 : decode cX6_valueAt 8 = .ok (.isub, 1) := by decide +kernel
theorem dX6_valueAt_9 : decode cX6_valueAt 9 = .ok (.invokestatic 75, 3) := by decide +kernel
theorem dX6_valueAt_12 : decode cX6_valueAt 12 = .ok (.ifCond .eq 7, 3) := by decide +kernel
theorem dX6_valueAt_15 : decode cX6_valueAt 15 = .ok (.iconst 0, 1) := by decide +kernel
theorem dX6_valueAt_16 : decode cX6_valueAt 16 = .ok (.goto 4, 3) := by decide +kernel
theorem dX6_valueAt_19 : decode cX6_valueAt 19 = .ok (.iconst 1, 1) := by decide +kernel
theorem dX6_valueAt_20 : decode cX6_valueAt 20 = .ok (.invokevirtual 102, 3) := by decide +kernel
theorem dX6_valueAt_23 : decode cX6_valueAt 23 = .ok (.ifCond .eq 12, 3) := by decide +kernel
theorem dX6_valueAt_26 : decode cX6_valueAt 26 = .ok (.aload_n 0, 1) := by decide +kernel
theorem dX6_valueAt_27 : decode cX6_valueAt 27 = .ok (.getfield 53, 3) := by decide +kernel
theorem dX6_valueAt_30 : decode cX6_valueAt 30 = .ok (.iload_n 1, 1) := by decide +kernel
theorem dX6_valueAt_31 : decode cX6_valueAt 31 = .ok (.iaload, 1) := by decide +kernel
theorem dX6_valueAt_32 : decode cX6_valueAt 32 = .ok (.goto 4, 3) := by decide +kernel
theorem dX6_valueAt_35 : decode cX6_valueAt 35 = .ok (.iconst 0, 1) := by decide +kernel
theorem dX6_valueAt_36 : decode cX6_valueAt 36 = .ok (.ireturn, 1) := by decide +kernel
theorem dJ9_max_7cf53_0 : decode cJ9_max_7cf53 0 = .ok (.iload_n 0, 1) := by decide +kernel
theorem dJ9_max_7cf53_1 : decode cJ9_max_7cf53 1 = .ok (.iload_n 1, 1) := by decide +kernel
theorem dJ9_max_7cf53_2 : decode cJ9_max_7cf53 2 = .ok (.if_icmp .lt 7, 3) := by decide +kernel
theorem dJ9_max_7cf53_5 : decode cJ9_max_7cf53 5 = .ok (.iload_n 0, 1) := by decide +kernel
theorem dJ9_max_7cf53_6 : decode cJ9_max_7cf53 6 = .ok (.goto 4, 3) := by decide +kernel
theorem dJ9_max_7cf53_9 : decode cJ9_max_7cf53 9 = .ok (.iload_n 1, 1) := by decide +kernel
theorem dJ9_max_7cf53_10 : decode cJ9_max_7cf53 10 = .ok (.ireturn, 1) := by decide +kernel
theorem dJ9_min_7cf53_0 : decode cJ9_min_7cf53 0 = .ok (.iload_n 0, 1) := by decide +kernel
theorem dJ9_min_7cf53_1 : decode cJ9_min_7cf53 1 = .ok (.iload_n 1, 1) := by decide +kernel
theorem dJ9_min_7cf53_2 : decode cJ9_min_7cf53 2 = .ok (.if_icmp .gt 7, 3) := by decide +kernel
theorem dJ9_min_7cf53_5 : decode cJ9_min_7cf53 5 = .ok (.iload_n 0, 1) := by decide +kernel
theorem dJ9_min_7cf53_6 : decode cJ9_min_7cf53 6 = .ok (.goto 4, 3) := by decide +kernel
theorem dJ9_min_7cf53_9 : decode cJ9_min_7cf53 9 = .ok (.iload_n 1, 1) := by decide +kernel
theorem dJ9_min_7cf53_10 : decode cJ9_min_7cf53 10 = .ok (.ireturn, 1) := by decide +kernel
theorem dJxa1e45_init_da8c8_0 : decode cJxa1e45_init_da8c8 0 = .ok (.aload_n 0, 1) := by decide +kernel
theorem dJxa1e45_init_da8c8_1 : decode cJxa1e45_init_da8c8 1 = .ok (.invokespecial 1, 3) := by decide +kernel
theorem dJxa1e45_init_da8c8_4 : decode cJxa1e45_init_da8c8 4 = .ok (.return_, 1) := by decide +kernel
theorem dJxc12de_init_da8c8_0 : decode cJxc12de_init_da8c8 0 = .ok (.aload_n 0, 1) := by decide +kernel
theorem dJxc12de_init_da8c8_1 : decode cJxc12de_init_da8c8 1 = .ok (.invokespecial 1, 3) := by decide +kernel
theorem dJxc12de_init_da8c8_4 : decode cJxc12de_init_da8c8 4 = .ok (.aload_n 0, 1) := by decide +kernel
theorem dJxc12de_init_da8c8_5 : decode cJxc12de_init_da8c8 5 = .ok (.iconst 0, 1) := by decide +kernel
theorem dJxc12de_init_da8c8_6 : decode cJxc12de_init_da8c8 6 = .ok (.putfield 7, 3) := by decide +kernel
theorem dJxc12de_init_da8c8_9 : decode cJxc12de_init_da8c8 9 = .ok (.return_, 1) := by decide +kernel
theorem dJx4a65c_init_da8c8_0 : decode cJx4a65c_init_da8c8 0 = .ok (.aload_n 0, 1) := by decide +kernel
theorem dJx4a65c_init_da8c8_1 : decode cJx4a65c_init_da8c8 1 = .ok (.invokespecial 1, 3) := by decide +kernel
theorem dJx4a65c_init_da8c8_4 : decode cJx4a65c_init_da8c8 4 = .ok (.aload_n 0, 1) := by decide +kernel
theorem dJx4a65c_init_da8c8_5 : decode cJx4a65c_init_da8c8 5 = .ok (.getstatic 39, 3) := by decide +kernel
theorem dJx4a65c_init_da8c8_8 : decode cJx4a65c_init_da8c8 8 = .ok (.putfield 9, 3) := by decide +kernel
theorem dJx4a65c_init_da8c8_11 : decode cJx4a65c_init_da8c8 11 = .ok (.return_, 1) := by decide +kernel
theorem dJx4a65c_grow_92f84_0 : decode cJx4a65c_grow_92f84 0 = .ok (.aload_n 0, 1) := by decide +kernel
theorem dJx4a65c_grow_92f84_1 : decode cJx4a65c_grow_92f84 1 = .ok (.getfield 9, 3) := by decide +kernel
theorem dJx4a65c_grow_92f84_4 : decode cJx4a65c_grow_92f84 4 = .ok (.arraylength, 1) := by decide +kernel
theorem dJx4a65c_grow_92f84_5 : decode cJx4a65c_grow_92f84 5 = .ok (.istore_n 2, 1) := by decide +kernel
theorem dJx4a65c_grow_92f84_6 : decode cJx4a65c_grow_92f84 6 = .ok (.iload_n 2, 1) := by decide +kernel
theorem dJx4a65c_grow_92f84_7 : decode cJx4a65c_grow_92f84 7 = .ok (.ifCond .gt 13, 3) := by decide +kernel
theorem dJx4a65c_grow_92f84_10 : decode cJx4a65c_grow_92f84 10 = .ok (.aload_n 0, 1) := by decide +kernel
theorem dJx4a65c_grow_92f84_11 : decode cJx4a65c_grow_92f84 11 = .ok (.getfield 9, 3) := by decide +kernel
theorem dJx4a65c_grow_92f84_14 : decode cJx4a65c_grow_92f84 14 = .ok (.getstatic 39, 3) := by decide +kernel
theorem dJx4a65c_grow_92f84_17 : decode cJx4a65c_grow_92f84 17 = .ok (.if_acmp .eq 28, 3) := by decide +kernel
theorem dJx4a65c_grow_92f84_20 : decode cJx4a65c_grow_92f84 20 = .ok (.iload_n 2, 1) := by decide +kernel
theorem dJx4a65c_grow_92f84_21 : decode cJx4a65c_grow_92f84 21 = .ok (.iload_n 1, 1) := by decide +kernel
theorem dJx4a65c_grow_92f84_22 : decode cJx4a65c_grow_92f84 22 = .ok (.iload_n 2, 1) := by decide +kernel
theorem dJx4a65c_grow_92f84_23 : decode cJx4a65c_grow_92f84 23 = .ok (.isub, 1) := by decide +kernel
theorem dJx4a65c_grow_92f84_24 : decode cJx4a65c_grow_92f84 24 = .ok (.iload_n 2, 1) := by decide +kernel
theorem dJx4a65c_grow_92f84_25 : decode cJx4a65c_grow_92f84 25 = .ok (.iconst 1, 1) := by decide +kernel
theorem dJx4a65c_grow_92f84_26 : decode cJx4a65c_grow_92f84 26 = .ok (.ishr, 1) := by decide +kernel
theorem dJx4a65c_grow_92f84_27 : decode cJx4a65c_grow_92f84 27 = .ok (.invokestatic 73, 3) := by decide +kernel
theorem dJx4a65c_grow_92f84_30 : decode cJx4a65c_grow_92f84 30 = .ok (.istore_n 3, 1) := by decide +kernel
theorem dJx4a65c_grow_92f84_31 : decode cJx4a65c_grow_92f84 31 = .ok (.aload_n 0, 1) := by decide +kernel
theorem dJx4a65c_grow_92f84_32 : decode cJx4a65c_grow_92f84 32 = .ok (.aload_n 0, 1) := by decide +kernel
theorem dJx4a65c_grow_92f84_33 : decode cJx4a65c_grow_92f84 33 = .ok (.getfield 9, 3) := by decide +kernel
theorem dJx4a65c_grow_92f84_36 : decode cJx4a65c_grow_92f84 36 = .ok (.iload_n 3, 1) := by decide +kernel
theorem dJx4a65c_grow_92f84_37 : decode cJx4a65c_grow_92f84 37 = .ok (.invokestatic 66, 3) := by decide +kernel
theorem dJx4a65c_grow_92f84_40 : decode cJx4a65c_grow_92f84 40 = .ok (.dup_x1, 1) := by decide +kernel
theorem dJx4a65c_grow_92f84_41 : decode cJx4a65c_grow_92f84 41 = .ok (.putfield 9, 3) := by decide +kernel
theorem dJx4a65c_grow_92f84_44 : decode cJx4a65c_grow_92f84 44 = .ok (.areturn, 1) := by decide +kernel
theorem dJx4a65c_grow_92f84_45 : decode cJx4a65c_grow_92f84 45 = .ok (.aload_n 0, 1) := by decide +kernel
theorem dJx4a65c_grow_92f84_46 : decode cJx4a65c_grow_92f84 46 = .ok (.bipush 10, 2) := by decide +kernel
theorem dJx4a65c_grow_92f84_48 : decode cJx4a65c_grow_92f84 48 = .ok (.iload_n 1, 1) := by decide +kernel
theorem dJx4a65c_grow_92f84_49 : decode cJx4a65c_grow_92f84 49 = .ok (.invokestatic 79, 3) := by decide +kernel
theorem dJx4a65c_grow_92f84_52 : decode cJx4a65c_grow_92f84 52 = .ok (.anewarray 7, 3) := by decide +kernel
theorem dJx4a65c_grow_92f84_55 : decode cJx4a65c_grow_92f84 55 = .ok (.dup_x1, 1) := by decide +kernel
theorem dJx4a65c_grow_92f84_56 : decode cJx4a65c_grow_92f84 56 = .ok (.putfield 9, 3) := by decide +kernel
theorem dJx4a65c_grow_92f84_59 : decode cJx4a65c_grow_92f84 59 = .ok (.areturn, 1) := by decide +kernel
theorem dJx4a65c_grow_d5877_0 : decode cJx4a65c_grow_d5877 0 = .ok (.aload_n 0, 1) := by decide +kernel
theorem dJx4a65c_grow_d5877_1 : decode cJx4a65c_grow_d5877 1 = .ok (.aload_n 0, 1) := by decide +kernel
theorem dJx4a65c_grow_d5877_2 : decode cJx4a65c_grow_d5877 2 = .ok (.getfield 48, 3) := by decide +kernel
theorem dJx4a65c_grow_d5877_5 : decode cJx4a65c_grow_d5877 5 = .ok (.iconst 1, 1) := by decide +kernel
theorem dJx4a65c_grow_d5877_6 : decode cJx4a65c_grow_d5877 6 = .ok (.iadd, 1) := by decide +kernel
theorem dJx4a65c_grow_d5877_7 : decode cJx4a65c_grow_d5877 7 = .ok (.invokevirtual 69, 3) := by decide +kernel
theorem dJx4a65c_grow_d5877_10 : decode cJx4a65c_grow_d5877 10 = .ok (.areturn, 1) := by decide +kernel
theorem dJx4a65c_size_8abf5_0 : decode cJx4a65c_size_8abf5 0 = .ok (.aload_n 0, 1) := by decide +kernel
theorem dJx4a65c_size_8abf5_1 : decode cJx4a65c_size_8abf5 1 = .ok (.getfield 48, 3) := by decide +kernel
theorem dJx4a65c_size_8abf5_4 : decode cJx4a65c_size_8abf5 4 = .ok (.ireturn, 1) := by decide +kernel
theorem dJx4a65c_isEmpty_aae02_0 : decode cJx4a65c_isEmpty_aae02 0 = .ok (.aload_n 0, 1) := by decide +kernel
theorem dJx4a65c_isEmpty_aae02_1 : decode cJx4a65c_isEmpty_aae02 1 = .ok (.getfield 48, 3) := by decide +kernel
theorem dJx4a65c_isEmpty_aae02_4 : decode cJx4a65c_isEmpty_aae02 4 = .ok (.ifCond .ne 7, 3) := by decide +kernel
theorem dJx4a65c_isEmpty_aae02_7 : decode cJx4a65c_isEmpty_aae02 7 = .ok (.iconst 1, 1) := by decide +kernel
theorem dJx4a65c_isEmpty_aae02_8 : decode cJx4a65c_isEmpty_aae02 8 = .ok (.goto 4, 3) := by decide +kernel
theorem dJx4a65c_isEmpty_aae02_11 : decode cJx4a65c_isEmpty_aae02 11 = .ok (.iconst 0, 1) := by decide +kernel
theorem dJx4a65c_isEmpty_aae02_12 : decode cJx4a65c_isEmpty_aae02 12 = .ok (.ireturn, 1) := by decide +kernel
theorem dJx4a65c_elementData_915e3_0 : decode cJx4a65c_elementData_915e3 0 = .ok (.aload_n 0, 1) := by decide +kernel
theorem dJx4a65c_elementData_915e3_1 : decode cJx4a65c_elementData_915e3 1 = .ok (.getfield 9, 3) := by decide +kernel
theorem dJx4a65c_elementData_915e3_4 : decode cJx4a65c_elementData_915e3 4 = .ok (.iload_n 1, 1) := by decide +kernel
theorem dJx4a65c_elementData_915e3_5 : decode cJx4a65c_elementData_915e3 5 = .ok (.aaload, 1) := by decide +kernel
theorem dJx4a65c_elementData_915e3_6 : decode cJx4a65c_elementData_915e3 6 = .ok (.areturn, 1) := by decide +kernel
theorem dJx4a65c_get_915e3_0 : decode cJx4a65c_get_915e3 0 = .ok (.iload_n 1, 1) := by decide +kernel
theorem dJx4a65c_get_915e3_1 : decode cJx4a65c_get_915e3 1 = .ok (.aload_n 0, 1) := by decide +kernel
theorem dJx4a65c_get_915e3_2 : decode cJx4a65c_get_915e3 2 = .ok (.getfield 48, 3) := by decide +kernel
theorem dJx4a65c_get_915e3_5 : decode cJx4a65c_get_915e3 5 = .ok (.invokestatic 118, 3) := by decide +kernel
theorem dJx4a65c_get_915e3_8 : decode cJx4a65c_get_915e3 8 = .ok (.pop, 1) := by decide +kernel
theorem dJx4a65c_get_915e3_9 : decode cJx4a65c_get_915e3 9 = .ok (.aload_n 0, 1) := by decide +kernel
theorem dJx4a65c_get_915e3_10 : decode cJx4a65c_get_915e3 10 = .ok (.iload_n 1, 1) := by decide +kernel
theorem dJx4a65c_get_915e3_11 : decode cJx4a65c_get_915e3 11 = .ok (.invokevirtual 123, 3) := by decide +kernel
theorem dJx4a65c_get_915e3_14 : decode cJx4a65c_get_915e3 14 = .ok (.areturn, 1) := by decide +kernel
theorem dJx4a65c_add_72be8_0 : decode cJx4a65c_add_72be8 0 = .ok (.iload_n 3, 1) := by decide +kernel
theorem dJx4a65c_add_72be8_1 : decode cJx4a65c_add_72be8 1 = .ok (.aload_n 2, 1) := by decide +kernel
theorem dJx4a65c_add_72be8_2 : decode cJx4a65c_add_72be8 2 = .ok (.arraylength, 1) := by decide +kernel
theorem dJx4a65c_add_72be8_3 : decode cJx4a65c_add_72be8 3 = .ok (.if_icmp .ne 8, 3) := by decide +kernel
theorem dJx4a65c_add_72be8_6 : decode cJx4a65c_add_72be8 6 = .ok (.aload_n 0, 1) := by decide +kernel
theorem dJx4a65c_add_72be8_7 : decode cJx4a65c_add_72be8 7 = .ok (.invokevirtual 129, 3) := by decide +kernel
theorem dJx4a65c_add_72be8_10 : decode cJx4a65c_add_72be8 10 = .ok (.astore_n 2, 1) := by decide +kernel
theorem dJx4a65c_add_72be8_11 : decode cJx4a65c_add_72be8 11 = .ok (.aload_n 2, 1) := by decide +kernel
theorem dJx4a65c_add_72be8_12 : decode cJx4a65c_add_72be8 12 = .ok (.iload_n 3, 1) := by decide +kernel
theorem dJx4a65c_add_72be8_13 : decode cJx4a65c_add_72be8 13 = .ok (.aload_n 1, 1) := by decide +kernel
theorem dJx4a65c_add_72be8_14 : decode cJx4a65c_add_72be8 14 = .ok (.aastore, 1) := by decide +kernel
theorem dJx4a65c_add_72be8_15 : decode cJx4a65c_add_72be8 15 = .ok (.aload_n 0, 1) := by decide +kernel
theorem dJx4a65c_add_72be8_16 : decode cJx4a65c_add_72be8 16 = .ok (.iload_n 3, 1) := by decide +kernel
theorem dJx4a65c_add_72be8_17 : decode cJx4a65c_add_72be8 17 = .ok (.iconst 1, 1) := by decide +kernel
theorem dJx4a65c_add_72be8_18 : decode cJx4a65c_add_72be8 18 = .ok (.iadd, 1) := by decide +kernel
theorem dJx4a65c_add_72be8_19 : decode cJx4a65c_add_72be8 19 = .ok (.putfield 48, 3) := by decide +kernel
theorem dJx4a65c_add_72be8_22 : decode cJx4a65c_add_72be8 22 = .ok (.return_, 1) := by decide +kernel
theorem dJx4a65c_add_9ea2d_0 : decode cJx4a65c_add_9ea2d 0 = .ok (.aload_n 0, 1) := by decide +kernel
theorem dJx4a65c_add_9ea2d_1 : decode cJx4a65c_add_9ea2d 1 = .ok (.dup, 1) := by decide +kernel
theorem dJx4a65c_add_9ea2d_2 : decode cJx4a65c_add_9ea2d 2 = .ok (.getfield 63, 3) := by decide +kernel
theorem dJx4a65c_add_9ea2d_5 : decode cJx4a65c_add_9ea2d 5 = .ok (.iconst 1, 1) := by decide +kernel
theorem dJx4a65c_add_9ea2d_6 : decode cJx4a65c_add_9ea2d 6 = .ok (.iadd, 1) := by decide +kernel
theorem dJx4a65c_add_9ea2d_7 : decode cJx4a65c_add_9ea2d 7 = .ok (.putfield 63, 3) := by decide +kernel
theorem dJx4a65c_add_9ea2d_10 : decode cJx4a65c_add_9ea2d 10 = .ok (.aload_n 0, 1) := by decide +kernel
theorem dJx4a65c_add_9ea2d_11 : decode cJx4a65c_add_9ea2d 11 = .ok (.aload_n 1, 1) := by decide +kernel
theorem dJx4a65c_add_9ea2d_12 : decode cJx4a65c_add_9ea2d 12 = .ok (.aload_n 0, 1) := by decide +kernel
theorem dJx4a65c_add_9ea2d_13 : decode cJx4a65c_add_9ea2d 13 = .ok (.getfield 9, 3) := by decide +kernel
theorem dJx4a65c_add_9ea2d_16 : decode cJx4a65c_add_9ea2d 16 = .ok (.aload_n 0, 1) := by decide +kernel
theorem dJx4a65c_add_9ea2d_17 : decode cJx4a65c_add_9ea2d 17 = .ok (.getfield 48, 3) := by decide +kernel
theorem dJx4a65c_add_9ea2d_20 : decode cJx4a65c_add_9ea2d 20 = .ok (.invokevirtual 131, 3) := by decide +kernel
theorem dJx4a65c_add_9ea2d_23 : decode cJx4a65c_add_9ea2d 23 = .ok (.iconst 1, 1) := by decide +kernel
theorem dJx4a65c_add_9ea2d_24 : decode cJx4a65c_add_9ea2d 24 = .ok (.ireturn, 1) := by decide +kernel
theorem dJx4a65c_clear_da8c8_0 : decode cJx4a65c_clear_da8c8 0 = .ok (.aload_n 0, 1) := by decide +kernel
theorem dJx4a65c_clear_da8c8_1 : decode cJx4a65c_clear_da8c8 1 = .ok (.dup, 1) := by decide +kernel
theorem dJx4a65c_clear_da8c8_2 : decode cJx4a65c_clear_da8c8 2 = .ok (.getfield 63, 3) := by decide +kernel
theorem dJx4a65c_clear_da8c8_5 : decode cJx4a65c_clear_da8c8 5 = .ok (.iconst 1, 1) := by decide +kernel
end
section
theorem dJx4a65c_clear_da8c8_6 : decode cJx4a65c_clear_da8c8 6 = .ok (.iadd, 1) := by decide +kernel
theorem dJx4a65c_clear_da8c8_7 : decode cJx4a65c_clear_da8c8 7 = .ok (.putfield 63, 3) := by decide +kernel
theorem dJx4a65c_clear_da8c8_10 : decode cJx4a65c_clear_da8c8 10 = .ok (.aload_n 0, 1) := by decide +kernel
theorem dJx4a65c_clear_da8c8_11 : decode cJx4a65c_clear_da8c8 11 = .ok (.getfield 9, 3) := by decide +kernel
theorem dJx4a65c_clear_da8c8_14 : decode cJx4a65c_clear_da8c8 14 = .ok (.astore_n 1, 1) := by decide +kernel
theorem dJx4a65c_clear_da8c8_15 : decode cJx4a65c_clear_da8c8 15 = .ok (.aload_n 0, 1) := by decide +kernel
theorem dJx4a65c_clear_da8c8_16 : decode cJx4a65c_clear_da8c8 16 = .ok (.getfield 48, 3) := by decide +kernel
theorem dJx4a65c_clear_da8c8_19 : decode cJx4a65c_clear_da8c8 19 = .ok (.istore_n 2, 1) := by decide +kernel
theorem dJx4a65c_clear_da8c8_20 : decode cJx4a65c_clear_da8c8 20 = .ok (.aload_n 0, 1) := by decide +kernel
theorem dJx4a65c_clear_da8c8_21 : decode cJx4a65c_clear_da8c8 21 = .ok (.iconst 0, 1) := by decide +kernel
theorem dJx4a65c_clear_da8c8_22 : decode cJx4a65c_clear_da8c8 22 = .ok (.dup_x1, 1) := by decide +kernel
theorem dJx4a65c_clear_da8c8_23 : decode cJx4a65c_clear_da8c8 23 = .ok (.putfield 48, 3) := by decide +kernel
theorem dJx4a65c_clear_da8c8_26 : decode cJx4a65c_clear_da8c8 26 = .ok (.istore_n 3, 1) := by decide +kernel
theorem dJx4a65c_clear_da8c8_27 : decode cJx4a65c_clear_da8c8 27 = .ok (.iload_n 3, 1) := by decide +kernel
theorem dJx4a65c_clear_da8c8_28 : decode cJx4a65c_clear_da8c8 28 = .ok (.iload_n 2, 1) := by decide +kernel
theorem dJx4a65c_clear_da8c8_29 : decode cJx4a65c_clear_da8c8 29 = .ok (.if_icmp .ge 13, 3) := by decide +kernel
theorem dJx4a65c_clear_da8c8_32 : decode cJx4a65c_clear_da8c8 32 = .ok (.aload_n 1, 1) := by decide +kernel
theorem dJx4a65c_clear_da8c8_33 : decode cJx4a65c_clear_da8c8 33 = .ok (.iload_n 3, 1) := by decide +kernel
theorem dJx4a65c_clear_da8c8_34 : decode cJx4a65c_clear_da8c8 34 = .ok (.aconst_null, 1) := by decide +kernel
theorem dJx4a65c_clear_da8c8_35 : decode cJx4a65c_clear_da8c8 35 = .ok (.aastore, 1) := by decide +kernel
theorem dJx4a65c_clear_da8c8_36 : decode cJx4a65c_clear_da8c8 36 = .ok (.iinc 3 1, 3) := by decide +kernel
theorem dJx4a65c_clear_da8c8_39 : decode cJx4a65c_clear_da8c8 39 = .ok (.goto (-12), 3) := by decide +kernel
theorem dJx4a65c_clear_da8c8_42 : decode cJx4a65c_clear_da8c8 42 = .ok (.return_, 1) := by decide +kernel
theorem dJ7_copyOf_1904c_0 : decode cJ7_copyOf_1904c 0 = .ok (.aload_n 0, 1) := by decide +kernel
theorem dJ7_copyOf_1904c_1 : decode cJ7_copyOf_1904c 1 = .ok (.iload_n 1, 1) := by decide +kernel
theorem dJ7_copyOf_1904c_2 : decode cJ7_copyOf_1904c 2 = .ok (.aload_n 0, 1) := by decide +kernel
theorem dJ7_copyOf_1904c_3 : decode cJ7_copyOf_1904c 3 = .ok (.invokevirtual 86, 3) := by decide +kernel
theorem dJ7_copyOf_1904c_6 : decode cJ7_copyOf_1904c 6 = .ok (.invokestatic 300, 3) := by decide +kernel
theorem dJ7_copyOf_1904c_9 : decode cJ7_copyOf_1904c 9 = .ok (.areturn, 1) := by decide +kernel
theorem dJ7_copyOf_6403c_0 : decode cJ7_copyOf_6403c 0 = .ok (.aload_n 2, 1) := by decide +kernel
theorem dJ7_copyOf_6403c_1 : decode cJ7_copyOf_6403c 1 = .ok (.ldc 110, 2) := by decide +kernel
theorem dJ7_copyOf_6403c_3 : decode cJ7_copyOf_6403c 3 = .ok (.if_acmp .ne 10, 3) := by decide +kernel
theorem dJ7_copyOf_6403c_6 : decode cJ7_copyOf_6403c 6 = .ok (.iload_n 1, 1) := by decide +kernel
theorem dJ7_copyOf_6403c_7 : decode cJ7_copyOf_6403c 7 = .ok (.anewarray 2, 3) := by decide +kernel
theorem dJ7_copyOf_6403c_10 : decode cJ7_copyOf_6403c 10 = .ok (.goto 14, 3) := by decide +kernel
theorem dJ7_copyOf_6403c_13 : decode cJ7_copyOf_6403c 13 = .ok (.aload_n 2, 1) := by decide +kernel
theorem dJ7_copyOf_6403c_14 : decode cJ7_copyOf_6403c 14 = .ok (.invokevirtual 90, 3) := by decide +kernel
theorem dJ7_copyOf_6403c_17 : decode cJ7_copyOf_6403c 17 = .ok (.iload_n 1, 1) := by decide +kernel
theorem dJ7_copyOf_6403c_18 : decode cJ7_copyOf_6403c 18 = .ok (.invokestatic 95, 3) := by decide +kernel
theorem dJ7_copyOf_6403c_21 : decode cJ7_copyOf_6403c 21 = .ok (.checkcast 110, 3) := by decide +kernel
theorem dJ7_copyOf_6403c_24 : decode cJ7_copyOf_6403c 24 = .ok (.astore_n 3, 1) := by decide +kernel
theorem dJ7_copyOf_6403c_25 : decode cJ7_copyOf_6403c 25 = .ok (.aload_n 0, 1) := by decide +kernel
theorem dJ7_copyOf_6403c_26 : decode cJ7_copyOf_6403c 26 = .ok (.iconst 0, 1) := by decide +kernel
theorem dJ7_copyOf_6403c_27 : decode cJ7_copyOf_6403c 27 = .ok (.aload_n 3, 1) := by decide +kernel
theorem dJ7_copyOf_6403c_28 : decode cJ7_copyOf_6403c 28 = .ok (.iconst 0, 1) := by decide +kernel
theorem dJ7_copyOf_6403c_29 : decode cJ7_copyOf_6403c 29 = .ok (.aload_n 0, 1) := by decide +kernel
theorem dJ7_copyOf_6403c_30 : decode cJ7_copyOf_6403c 30 = .ok (.arraylength, 1) := by decide +kernel
theorem dJ7_copyOf_6403c_31 : decode cJ7_copyOf_6403c 31 = .ok (.iload_n 1, 1) := by decide +kernel
theorem dJ7_copyOf_6403c_32 : decode cJ7_copyOf_6403c 32 = .ok (.invokestatic 304, 3) := by decide +kernel
theorem dJ7_copyOf_6403c_35 : decode cJ7_copyOf_6403c 35 = .ok (.invokestatic 150, 3) := by decide +kernel
theorem dJ7_copyOf_6403c_38 : decode cJ7_copyOf_6403c 38 = .ok (.aload_n 3, 1) := by decide +kernel
theorem dJ7_copyOf_6403c_39 : decode cJ7_copyOf_6403c 39 = .ok (.areturn, 1) := by decide +kernel
theorem dJ15_checkIndex_7cf53_0 : decode cJ15_checkIndex_7cf53 0 = .ok (.iload_n 0, 1) := by decide +kernel
theorem dJ15_checkIndex_7cf53_1 : decode cJ15_checkIndex_7cf53 1 = .ok (.iload_n 1, 1) := by decide +kernel
theorem dJ15_checkIndex_7cf53_2 : decode cJ15_checkIndex_7cf53 2 = .ok (.aconst_null, 1) := by decide +kernel
theorem dJ15_checkIndex_7cf53_3 : decode cJ15_checkIndex_7cf53 3 = .ok (.invokestatic 105, 3) := by decide +kernel
theorem dJ15_checkIndex_7cf53_6 : decode cJ15_checkIndex_7cf53 6 = .ok (.ireturn, 1) := by decide +kernel
theorem dJ8_newLength_cabcc_0 : decode cJ8_newLength_cabcc 0 = .ok (.iload_n 0, 1) := by decide +kernel
theorem dJ8_newLength_cabcc_1 : decode cJ8_newLength_cabcc 1 = .ok (.iload_n 1, 1) := by decide +kernel
theorem dJ8_newLength_cabcc_2 : decode cJ8_newLength_cabcc 2 = .ok (.iload_n 2, 1) := by decide +kernel
theorem dJ8_newLength_cabcc_3 : decode cJ8_newLength_cabcc 3 = .ok (.invokestatic 194, 3) := by decide +kernel
theorem dJ8_newLength_cabcc_6 : decode cJ8_newLength_cabcc 6 = .ok (.iadd, 1) := by decide +kernel
theorem dJ8_newLength_cabcc_7 : decode cJ8_newLength_cabcc 7 = .ok (.istore_n 3, 1) := by decide +kernel
theorem dJ8_newLength_cabcc_8 : decode cJ8_newLength_cabcc 8 = .ok (.iconst 0, 1) := by decide +kernel
theorem dJ8_newLength_cabcc_9 : decode cJ8_newLength_cabcc 9 = .ok (.iload_n 3, 1) := by decide +kernel
theorem dJ8_newLength_cabcc_10 : decode cJ8_newLength_cabcc 10 = .ok (.if_icmp .ge 11, 3) := by decide +kernel
theorem dJ8_newLength_cabcc_13 : decode cJ8_newLength_cabcc 13 = .ok (.iload_n 3, 1) := by decide +kernel
theorem dJ8_newLength_cabcc_14 : decode cJ8_newLength_cabcc 14 = .ok (.ldc 200, 2) := by decide +kernel
theorem dJ8_newLength_cabcc_16 : decode cJ8_newLength_cabcc 16 = .ok (.if_icmp .gt 5, 3) := by decide +kernel
theorem dJ8_newLength_cabcc_19 : decode cJ8_newLength_cabcc 19 = .ok (.iload_n 3, 1) := by decide +kernel
theorem dJ8_newLength_cabcc_20 : decode cJ8_newLength_cabcc 20 = .ok (.ireturn, 1) := by decide +kernel
theorem dJ8_newLength_cabcc_21 : decode cJ8_newLength_cabcc 21 = .ok (.iload_n 0, 1) := by decide +kernel
theorem dJ8_newLength_cabcc_22 : decode cJ8_newLength_cabcc 22 = .ok (.iload_n 1, 1) := by decide +kernel
theorem dJ8_newLength_cabcc_23 : decode cJ8_newLength_cabcc 23 = .ok (.invokestatic 201, 3) := by decide +kernel
theorem dJ8_newLength_cabcc_26 : decode cJ8_newLength_cabcc 26 = .ok (.ireturn, 1) := by decide +kernel
theorem dJ8_hugeLength_7cf53_0 : decode cJ8_hugeLength_7cf53 0 = .ok (.iload_n 0, 1) := by decide +kernel
theorem dJ8_hugeLength_7cf53_1 : decode cJ8_hugeLength_7cf53 1 = .ok (.iload_n 1, 1) := by decide +kernel
theorem dJ8_hugeLength_7cf53_2 : decode cJ8_hugeLength_7cf53 2 = .ok (.iadd, 1) := by decide +kernel
theorem dJ8_hugeLength_7cf53_3 : decode cJ8_hugeLength_7cf53 3 = .ok (.istore_n 2, 1) := by decide +kernel
theorem dJ8_hugeLength_7cf53_4 : decode cJ8_hugeLength_7cf53 4 = .ok (.iload_n 2, 1) := by decide +kernel
theorem dJ8_hugeLength_7cf53_5 : decode cJ8_hugeLength_7cf53 5 = .ok (.ifCond .ge 44, 3) := by decide +kernel
theorem dJ8_hugeLength_7cf53_8 : decode cJ8_hugeLength_7cf53 8 = .ok (.new 204, 3) := by decide +kernel
theorem dJ8_hugeLength_7cf53_11 : decode cJ8_hugeLength_7cf53 11 = .ok (.dup, 1) := by decide +kernel
theorem dJ8_hugeLength_7cf53_12 : decode cJ8_hugeLength_7cf53 12 = .ok (.new 89, 3) := by decide +kernel
theorem dJ8_hugeLength_7cf53_15 : decode cJ8_hugeLength_7cf53 15 = .ok (.dup, 1) := by decide +kernel
theorem dJ8_hugeLength_7cf53_16 : decode cJ8_hugeLength_7cf53 16 = .ok (.invokespecial 91, 3) := by decide +kernel
theorem dJ8_hugeLength_7cf53_19 : decode cJ8_hugeLength_7cf53 19 = .ok (.ldc 206, 2) := by decide +kernel
theorem dJ8_hugeLength_7cf53_21 : decode cJ8_hugeLength_7cf53 21 = .ok (.invokevirtual 94, 3) := by decide +kernel
theorem dJ8_hugeLength_7cf53_24 : decode cJ8_hugeLength_7cf53 24 = .ok (.iload_n 0, 1) := by decide +kernel
theorem dJ8_hugeLength_7cf53_25 : decode cJ8_hugeLength_7cf53 25 = .ok (.invokevirtual 98, 3) := by decide +kernel
theorem dJ8_hugeLength_7cf53_28 : decode cJ8_hugeLength_7cf53 28 = .ok (.ldc 208, 2) := by decide +kernel
theorem dJ8_hugeLength_7cf53_30 : decode cJ8_hugeLength_7cf53 30 = .ok (.invokevirtual 94, 3) := by decide +kernel
theorem dJ8_hugeLength_7cf53_33 : decode cJ8_hugeLength_7cf53 33 = .ok (.iload_n 1, 1) := by decide +kernel
theorem dJ8_hugeLength_7cf53_34 : decode cJ8_hugeLength_7cf53 34 = .ok (.invokevirtual 98, 3) := by decide +kernel
theorem dJ8_hugeLength_7cf53_37 : decode cJ8_hugeLength_7cf53 37 = .ok (.ldc 210, 2) := by decide +kernel
theorem dJ8_hugeLength_7cf53_39 : decode cJ8_hugeLength_7cf53 39 = .ok (.invokevirtual 94, 3) := by decide +kernel
theorem dJ8_hugeLength_7cf53_42 : decode cJ8_hugeLength_7cf53 42 = .ok (.invokevirtual 101, 3) := by decide +kernel
theorem dJ8_hugeLength_7cf53_45 : decode cJ8_hugeLength_7cf53 45 = .ok (.invokespecial 212, 3) := by decide +kernel
theorem dJ8_hugeLength_7cf53_48 : decode cJ8_hugeLength_7cf53 48 = .ok (.athrow, 1) := by decide +kernel
theorem dJ8_hugeLength_7cf53_49 : decode cJ8_hugeLength_7cf53 49 = .ok (.iload_n 2, 1) := by decide +kernel
theorem dJ8_hugeLength_7cf53_50 : decode cJ8_hugeLength_7cf53 50 = .ok (.ldc 200, 2) := by decide +kernel
theorem dJ8_hugeLength_7cf53_52 : decode cJ8_hugeLength_7cf53 52 = .ok (.if_icmp .gt 6, 3) := by decide +kernel
theorem dJ8_hugeLength_7cf53_55 : decode cJ8_hugeLength_7cf53 55 = .ok (.ldc 200, 2) := by decide +kernel
theorem dJ8_hugeLength_7cf53_57 : decode cJ8_hugeLength_7cf53 57 = .ok (.ireturn, 1) := by decide +kernel
theorem dJ8_hugeLength_7cf53_58 : decode cJ8_hugeLength_7cf53 58 = .ok (.iload_n 2, 1) := by decide +kernel
theorem dJ8_hugeLength_7cf53_59 : decode cJ8_hugeLength_7cf53 59 = .ok (.ireturn, 1) := by decide +kernel
theorem dJ3_checkIndex_8e157_0 : decode cJ3_checkIndex_8e157 0 = .ok (.iload_n 0, 1) := by decide +kernel
theorem dJ3_checkIndex_8e157_1 : decode cJ3_checkIndex_8e157 1 = .ok (.ifCond .lt 8, 3) := by decide +kernel
theorem dJ3_checkIndex_8e157_4 : decode cJ3_checkIndex_8e157 4 = .ok (.iload_n 0, 1) := by decide +kernel
theorem dJ3_checkIndex_8e157_5 : decode cJ3_checkIndex_8e157 5 = .ok (.iload_n 1, 1) := by decide +kernel
theorem dJ3_checkIndex_8e157_6 : decode cJ3_checkIndex_8e157 6 = .ok (.if_icmp .lt 10, 3) := by decide +kernel
theorem dJ3_checkIndex_8e157_9 : decode cJ3_checkIndex_8e157 9 = .ok (.aload_n 2, 1) := by decide +kernel
theorem dJ3_checkIndex_8e157_10 : decode cJ3_checkIndex_8e157 10 = .ok (.iload_n 0, 1) := by decide +kernel
theorem dJ3_checkIndex_8e157_11 : decode cJ3_checkIndex_8e157 11 = .ok (.iload_n 1, 1) := by decide +kernel
theorem dJ3_checkIndex_8e157_12 : decode cJ3_checkIndex_8e157 12 = .ok (.invokestatic 95, 3) := by decide +kernel
theorem dJ3_checkIndex_8e157_15 : decode cJ3_checkIndex_8e157 15 = .ok (.athrow, 1) := by decide +kernel
theorem dJ3_checkIndex_8e157_16 : decode cJ3_checkIndex_8e157 16 = .ok (.iload_n 0, 1) := by decide +kernel
theorem dJ3_checkIndex_8e157_17 : decode cJ3_checkIndex_8e157 17 = .ok (.ireturn, 1) := by decide +kernel
theorem dL_field_0 : decode cL_field 0 = .ok (.aload 5, 2) := by decide +kernel
theorem dL_field_2 : decode cL_field 2 = .ok (.iconst 0, 1) := by decide +kernel
theorem dL_field_3 : decode cL_field 3 = .ok (.aload_n 0, 1) := by decide +kernel
theorem dL_field_4 : decode cL_field 4 = .ok (.iload_n 1, 1) := by decide +kernel
theorem dL_field_5 : decode cL_field 5 = .ok (.iload_n 2, 1) := by decide +kernel
theorem dL_field_6 : decode cL_field 6 = .ok (.iload_n 3, 1) := by decide +kernel
theorem dL_field_7 : decode cL_field 7 = .ok (.iload 4, 2) := by decide +kernel
theorem dL_field_9 : decode cL_field 9 = .ok (.invokevirtual 7, 3) := by decide +kernel
theorem dL_field_12 : decode cL_field 12 = .ok (.i2l, 1) := by decide +kernel
theorem dL_field_13 : decode cL_field 13 = .ok (.lastore, 1) := by decide +kernel
theorem dL_field_14 : decode cL_field 14 = .ok (.goto 15, 3) := by decide +kernel
theorem dL_field_17 : decode cL_field 17 = .ok (.astore 6, 2) := by decide +kernel
theorem dL_field_19 : decode cL_field 19 = .ok (.iconst 1, 1) := by decide +kernel
theorem dL_field_20 : decode cL_field 20 = .ok (.ireturn, 1) := by decide +kernel
theorem dL_field_21 : decode cL_field 21 = .ok (.astore 6, 2) := by decide +kernel
theorem dL_field_23 : decode cL_field 23 = .ok (.iconst 2, 1) := by decide +kernel
theorem dL_field_24 : decode cL_field 24 = .ok (.ireturn, 1) := by decide +kernel
theorem dL_field_25 : decode cL_field 25 = .ok (.astore 6, 2) := by decide +kernel
theorem dL_field_27 : decode cL_field 27 = .ok (.iconst 3, 1) := by decide +kernel
theorem dL_field_28 : decode cL_field 28 = .ok (.ireturn, 1) := by decide +kernel
theorem dL_field_29 : decode cL_field 29 = .ok (.iconst 0, 1) := by decide +kernel
theorem dL_field_30 : decode cL_field 30 = .ok (.ireturn, 1) := by decide +kernel
theorem dL_byDefault_0 : decode cL_byDefault 0 = .ok (.aload_n 2, 1) := by decide +kernel
theorem dL_byDefault_1 : decode cL_byDefault 1 = .ok (.iconst 0, 1) := by decide +kernel
theorem dL_byDefault_2 : decode cL_byDefault 2 = .ok (.aload_n 0, 1) := by decide +kernel
theorem dL_byDefault_3 : decode cL_byDefault 3 = .ok (.iload_n 1, 1) := by decide +kernel
theorem dL_byDefault_4 : decode cL_byDefault 4 = .ok (.invokevirtual 19, 3) := by decide +kernel
theorem dL_byDefault_7 : decode cL_byDefault 7 = .ok (.i2l, 1) := by decide +kernel
theorem dL_byDefault_8 : decode cL_byDefault 8 = .ok (.lastore, 1) := by decide +kernel
theorem dL_byDefault_9 : decode cL_byDefault 9 = .ok (.goto 9, 3) := by decide +kernel
theorem dL_byDefault_12 : decode cL_byDefault 12 = .ok (.astore_n 3, 1) := by decide +kernel
theorem dL_byDefault_13 : decode cL_byDefault 13 = .ok (.iconst 1, 1) := by decide +kernel
theorem dL_byDefault_14 : decode cL_byDefault 14 = .ok (.ireturn, 1) := by decide +kernel
theorem dL_byDefault_15 : decode cL_byDefault 15 = .ok (.astore_n 3, 1) := by decide +kernel
theorem dL_byDefault_16 : decode cL_byDefault 16 = .ok (.iconst 2, 1) := by decide +kernel
theorem dL_byDefault_17 : decode cL_byDefault 17 = .ok (.ireturn, 1) := by decide +kernel
theorem dL_byDefault_18 : decode cL_byDefault 18 = .ok (.iconst 0, 1) := by decide +kernel
theorem dL_byDefault_19 : decode cL_byDefault 19 = .ok (.ireturn, 1) := by decide +kernel
theorem dL_isAccepted_0 : decode cL_isAccepted 0 = .ok (.aload_n 2, 1) := by decide +kernel
theorem dL_isAccepted_1 : decode cL_isAccepted 1 = .ok (.iconst 0, 1) := by decide +kernel
theorem dL_isAccepted_2 : decode cL_isAccepted 2 = .ok (.aload_n 0, 1) := by decide +kernel
theorem dL_isAccepted_3 : decode cL_isAccepted 3 = .ok (.iload_n 1, 1) := by decide +kernel
theorem dL_isAccepted_4 : decode cL_isAccepted 4 = .ok (.invokevirtual 23, 3) := by decide +kernel
theorem dL_isAccepted_7 : decode cL_isAccepted 7 = .ok (.ifCond .eq 7, 3) := by decide +kernel
theorem dL_isAccepted_10 : decode cL_isAccepted 10 = .ok (.lconst 1, 1) := by decide +kernel
theorem dL_isAccepted_11 : decode cL_isAccepted 11 = .ok (.goto 4, 3) := by decide +kernel
theorem dL_isAccepted_14 : decode cL_isAccepted 14 = .ok (.lconst 0, 1) := by decide +kernel
theorem dL_isAccepted_15 : decode cL_isAccepted 15 = .ok (.lastore, 1) := by decide +kernel
theorem dL_isAccepted_16 : decode cL_isAccepted 16 = .ok (.goto 9, 3) := by decide +kernel
theorem dL_isAccepted_19 : decode cL_isAccepted 19 = .ok (.astore_n 3, 1) := by decide +kernel
theorem dL_isAccepted_20 : decode cL_isAccepted 20 = .ok (.iconst 1, 1) := by decide +kernel
theorem dL_isAccepted_21 : decode cL_isAccepted 21 = .ok (.ireturn, 1) := by decide +kernel
theorem dL_isAccepted_22 : decode cL_isAccepted 22 = .ok (.astore_n 3, 1) := by decide +kernel
theorem dL_isAccepted_23 : decode cL_isAccepted 23 = .ok (.iconst 2, 1) := by decide +kernel
theorem dL_isAccepted_24 : decode cL_isAccepted 24 = .ok (.ireturn, 1) := by decide +kernel
theorem dL_isAccepted_25 : decode cL_isAccepted 25 = .ok (.iconst 0, 1) := by decide +kernel
theorem dL_isAccepted_26 : decode cL_isAccepted 26 = .ok (.ireturn, 1) := by decide +kernel
theorem dL_register_0 : decode cL_register 0 = .ok (.aload_n 2, 1) := by decide +kernel
theorem dL_register_1 : decode cL_register 1 = .ok (.iconst 0, 1) := by decide +kernel
theorem dL_register_2 : decode cL_register 2 = .ok (.aload_n 0, 1) := by decide +kernel
theorem dL_register_3 : decode cL_register 3 = .ok (.iload_n 1, 1) := by decide +kernel
theorem dL_register_4 : decode cL_register 4 = .ok (.invokevirtual 27, 3) := by decide +kernel
theorem dL_register_7 : decode cL_register 7 = .ok (.i2l, 1) := by decide +kernel
theorem dL_register_8 : decode cL_register 8 = .ok (.lastore, 1) := by decide +kernel
theorem dL_register_9 : decode cL_register 9 = .ok (.goto 9, 3) := by decide +kernel
theorem dL_register_12 : decode cL_register 12 = .ok (.astore_n 3, 1) := by decide +kernel
theorem dL_register_13 : decode cL_register 13 = .ok (.iconst 1, 1) := by decide +kernel
theorem dL_register_14 : decode cL_register 14 = .ok (.ireturn, 1) := by decide +kernel
theorem dL_register_15 : decode cL_register 15 = .ok (.astore_n 3, 1) := by decide +kernel
theorem dL_register_16 : decode cL_register 16 = .ok (.iconst 2, 1) := by decide +kernel
theorem dL_register_17 : decode cL_register 17 = .ok (.ireturn, 1) := by decide +kernel
theorem dL_register_18 : decode cL_register 18 = .ok (.iconst 0, 1) := by decide +kernel
theorem dL_register_19 : decode cL_register 19 = .ok (.ireturn, 1) := by decide +kernel
theorem dL_setMode_0 : decode cL_setMode 0 = .ok (.aload 4, 2) := by decide +kernel
theorem dL_setMode_2 : decode cL_setMode 2 = .ok (.iconst 0, 1) := by decide +kernel
theorem dL_setMode_3 : decode cL_setMode 3 = .ok (.aload_n 0, 1) := by decide +kernel
theorem dL_setMode_4 : decode cL_setMode 4 = .ok (.iload_n 1, 1) := by decide +kernel
theorem dL_setMode_5 : decode cL_setMode 5 = .ok (.iload_n 2, 1) := by decide +kernel
theorem dL_setMode_6 : decode cL_setMode 6 = .ok (.iload_n 3, 1) := by decide +kernel
theorem dL_setMode_7 : decode cL_setMode 7 = .ok (.invokevirtual 30, 3) := by decide +kernel
theorem dL_setMode_10 : decode cL_setMode 10 = .ok (.i2l, 1) := by decide +kernel
theorem dL_setMode_11 : decode cL_setMode 11 = .ok (.lastore, 1) := by decide +kernel
theorem dL_setMode_12 : decode cL_setMode 12 = .ok (.goto 7, 3) := by decide +kernel
theorem dL_setMode_15 : decode cL_setMode 15 = .ok (.astore 5, 2) := by decide +kernel
theorem dL_setMode_17 : decode cL_setMode 17 = .ok (.iconst 1, 1) := by decide +kernel
theorem dL_setMode_18 : decode cL_setMode 18 = .ok (.ireturn, 1) := by decide +kernel
theorem dL_setMode_19 : decode cL_setMode 19 = .ok (.iconst 0, 1) := by decide +kernel
theorem dL_setMode_20 : decode cL_setMode 20 = .ok (.ireturn, 1) := by decide +kernel
theorem dL_delete_0 : decode cL_delete 0 = .ok (.aload 4, 2) := by decide +kernel
theorem dL_delete_2 : decode cL_delete 2 = .ok (.iconst 0, 1) := by decide +kernel
theorem dL_delete_3 : decode cL_delete 3 = .ok (.aload_n 0, 1) := by decide +kernel
theorem dL_delete_4 : decode cL_delete 4 = .ok (.iload_n 1, 1) := by decide +kernel
theorem dL_delete_5 : decode cL_delete 5 = .ok (.iload_n 2, 1) := by decide +kernel
theorem dL_delete_6 : decode cL_delete 6 = .ok (.iload_n 3, 1) := by decide +kernel
theorem dL_delete_7 : decode cL_delete 7 = .ok (.invokevirtual 34, 3) := by decide +kernel
theorem dL_delete_10 : decode cL_delete 10 = .ok (.i2l, 1) := by decide +kernel
theorem dL_delete_11 : decode cL_delete 11 = .ok (.lastore, 1) := by decide +kernel
theorem dL_delete_12 : decode cL_delete 12 = .ok (.goto 15, 3) := by decide +kernel
theorem dL_delete_15 : decode cL_delete 15 = .ok (.astore 5, 2) := by decide +kernel
theorem dL_delete_17 : decode cL_delete 17 = .ok (.iconst 1, 1) := by decide +kernel
theorem dL_delete_18 : decode cL_delete 18 = .ok (.ireturn, 1) := by decide +kernel
theorem dL_delete_19 : decode cL_delete 19 = .ok (.astore 5, 2) := by decide +kernel
theorem dL_delete_21 : decode cL_delete 21 = .ok (.iconst 2, 1) := by decide +kernel
theorem dL_delete_22 : decode cL_delete 22 = .ok (.ireturn, 1) := by decide +kernel
theorem dL_delete_23 : decode cL_delete 23 = .ok (.astore 5, 2) := by decide +kernel
theorem dL_delete_25 : decode cL_delete 25 = .ok (.iconst 3, 1) := by decide +kernel
theorem dL_delete_26 : decode cL_delete 26 = .ok (.ireturn, 1) := by decide +kernel
theorem dL_delete_27 : decode cL_delete 27 = .ok (.iconst 0, 1) := by decide +kernel
theorem dL_delete_28 : decode cL_delete 28 = .ok (.ireturn, 1) := by decide +kernel
theorem dL_versions_0 : decode cL_versions 0 = .ok (.aload_n 2, 1) := by decide +kernel
theorem dL_versions_1 : decode cL_versions 1 = .ok (.iconst 0, 1) := by decide +kernel
theorem dL_versions_2 : decode cL_versions 2 = .ok (.aload_n 0, 1) := by decide +kernel
theorem dL_versions_3 : decode cL_versions 3 = .ok (.iload_n 1, 1) := by decide +kernel
theorem dL_versions_4 : decode cL_versions 4 = .ok (.invokevirtual 37, 3) := by decide +kernel
theorem dL_versions_7 : decode cL_versions 7 = .ok (.i2l, 1) := by decide +kernel
theorem dL_versions_8 : decode cL_versions 8 = .ok (.lastore, 1) := by decide +kernel
theorem dL_versions_9 : decode cL_versions 9 = .ok (.goto 6, 3) := by decide +kernel
theorem dL_versions_12 : decode cL_versions 12 = .ok (.astore_n 3, 1) := by decide +kernel
theorem dL_versions_13 : decode cL_versions 13 = .ok (.iconst 1, 1) := by decide +kernel
theorem dL_versions_14 : decode cL_versions 14 = .ok (.ireturn, 1) := by decide +kernel
theorem dL_versions_15 : decode cL_versions 15 = .ok (.iconst 0, 1) := by decide +kernel
theorem dL_versions_16 : decode cL_versions 16 = .ok (.ireturn, 1) := by decide +kernel
theorem dL_number_0 : decode cL_number 0 = .ok (.aload_n 3, 1) := by decide +kernel
theorem dL_number_1 : decode cL_number 1 = .ok (.iconst 0, 1) := by decide +kernel
theorem dL_number_2 : decode cL_number 2 = .ok (.aload_n 0, 1) := by decide +kernel
theorem dL_number_3 : decode cL_number 3 = .ok (.iload_n 1, 1) := by decide +kernel
theorem dL_number_4 : decode cL_number 4 = .ok (.iload_n 2, 1) := by decide +kernel
theorem dL_number_5 : decode cL_number 5 = .ok (.invokevirtual 40, 3) := by decide +kernel
theorem dL_number_8 : decode cL_number 8 = .ok (.i2l, 1) := by decide +kernel
theorem dL_number_9 : decode cL_number 9 = .ok (.lastore, 1) := by decide +kernel
theorem dL_number_10 : decode cL_number 10 = .ok (.goto 11, 3) := by decide +kernel
theorem dL_number_13 : decode cL_number 13 = .ok (.astore 4, 2) := by decide +kernel
theorem dL_number_15 : decode cL_number 15 = .ok (.iconst 1, 1) := by decide +kernel
theorem dL_number_16 : decode cL_number 16 = .ok (.ireturn, 1) := by decide +kernel
theorem dL_number_17 : decode cL_number 17 = .ok (.astore 4, 2) := by decide +kernel
theorem dL_number_19 : decode cL_number 19 = .ok (.iconst 2, 1) := by decide +kernel
theorem dL_number_20 : decode cL_number 20 = .ok (.ireturn, 1) := by decide +kernel
theorem dL_number_21 : decode cL_number 21 = .ok (.iconst 0, 1) := by decide +kernel
theorem dL_number_22 : decode cL_number 22 = .ok (.ireturn, 1) := by decide +kernel
theorem dL_isThere_0 : decode cL_isThere 0 = .ok (.aload_n 3, 1) := by decide +kernel
theorem dL_isThere_1 : decode cL_isThere 1 = .ok (.iconst 0, 1) := by decide +kernel
theorem dL_isThere_2 : decode cL_isThere 2 = .ok (.aload_n 0, 1) := by decide +kernel
theorem dL_isThere_3 : decode cL_isThere 3 = .ok (.iload_n 1, 1) := by decide +kernel
theorem dL_isThere_4 : decode cL_isThere 4 = .ok (.iload_n 2, 1) := by decide +kernel
theorem dL_isThere_5 : decode cL_isThere 5 = .ok (.invokevirtual 44, 3) := by decide +kernel
theorem dL_isThere_8 : decode cL_isThere 8 = .ok (.ifCond .eq 7, 3) := by decide +kernel
theorem dL_isThere_11 : decode cL_isThere 11 = .ok (.lconst 1, 1) := by decide +kernel
theorem dL_isThere_12 : decode cL_isThere 12 = .ok (.goto 4, 3) := by decide +kernel
theorem dL_isThere_15 : decode cL_isThere 15 = .ok (.lconst 0, 1) := by decide +kernel
theorem dL_isThere_16 : decode cL_isThere 16 = .ok (.lastore, 1) := by decide +kernel
theorem dL_isThere_17 : decode cL_isThere 17 = .ok (.goto 11, 3) := by decide +kernel
theorem dL_isThere_20 : decode cL_isThere 20 = .ok (.astore 4, 2) := by decide +kernel
theorem dL_isThere_22 : decode cL_isThere 22 = .ok (.iconst 1, 1) := by decide +kernel
theorem dL_isThere_23 : decode cL_isThere 23 = .ok (.ireturn, 1) := by decide +kernel
theorem dL_isThere_24 : decode cL_isThere 24 = .ok (.astore 4, 2) := by decide +kernel
theorem dL_isThere_26 : decode cL_isThere 26 = .ok (.iconst 2, 1) := by decide +kernel
theorem dL_isThere_27 : decode cL_isThere 27 = .ok (.ireturn, 1) := by decide +kernel
theorem dL_isThere_28 : decode cL_isThere 28 = .ok (.iconst 0, 1) := by decide +kernel
theorem dL_isThere_29 : decode cL_isThere 29 = .ok (.ireturn, 1) := by decide +kernel
theorem dL_length_0 : decode cL_length 0 = .ok (.aload_n 3, 1) := by decide +kernel
theorem dL_length_1 : decode cL_length 1 = .ok (.iconst 0, 1) := by decide +kernel
theorem dL_length_2 : decode cL_length 2 = .ok (.aload_n 0, 1) := by decide +kernel
theorem dL_length_3 : decode cL_length 3 = .ok (.iload_n 1, 1) := by decide +kernel
theorem dL_length_4 : decode cL_length 4 = .ok (.iload_n 2, 1) := by decide +kernel
theorem dL_length_5 : decode cL_length 5 = .ok (.invokevirtual 48, 3) := by decide +kernel
theorem dL_length_8 : decode cL_length 8 = .ok (.i2l, 1) := by decide +kernel
theorem dL_length_9 : decode cL_length 9 = .ok (.lastore, 1) := by decide +kernel
theorem dL_length_10 : decode cL_length 10 = .ok (.goto 11, 3) := by decide +kernel
theorem dL_length_13 : decode cL_length 13 = .ok (.astore 4, 2) := by decide +kernel
theorem dL_length_15 : decode cL_length 15 = .ok (.iconst 1, 1) := by decide +kernel
theorem dL_length_16 : decode cL_length 16 = .ok (.ireturn, 1) := by decide +kernel
theorem dL_length_17 : decode cL_length 17 = .ok (.astore 4, 2) := by decide +kernel
theorem dL_length_19 : decode cL_length 19 = .ok (.iconst 2, 1) := by decide +kernel
theorem dL_length_20 : decode cL_length 20 = .ok (.ireturn, 1) := by decide +kernel
theorem dL_length_21 : decode cL_length 21 = .ok (.iconst 0, 1) := by decide +kernel
theorem dL_length_22 : decode cL_length 22 = .ok (.ireturn, 1) := by decide +kernel
theorem dL_canRead_0 : decode cL_canRead 0 = .ok (.aload 5, 2) := by decide +kernel
theorem dL_canRead_2 : decode cL_canRead 2 = .ok (.iconst 0, 1) := by decide +kernel
theorem dL_canRead_3 : decode cL_canRead 3 = .ok (.aload_n 0, 1) := by decide +kernel
theorem dL_canRead_4 : decode cL_canRead 4 = .ok (.iload_n 1, 1) := by decide +kernel
theorem dL_canRead_5 : decode cL_canRead 5 = .ok (.iload_n 2, 1) := by decide +kernel
theorem dL_canRead_6 : decode cL_canRead 6 = .ok (.iload_n 3, 1) := by decide +kernel
theorem dL_canRead_7 : decode cL_canRead 7 = .ok (.iload 4, 2) := by decide +kernel
theorem dL_canRead_9 : decode cL_canRead 9 = .ok (.invokevirtual 51, 3) := by decide +kernel
theorem dL_canRead_12 : decode cL_canRead 12 = .ok (.ifCond .eq 7, 3) := by decide +kernel
theorem dL_canRead_15 : decode cL_canRead 15 = .ok (.lconst 1, 1) := by decide +kernel
theorem dL_canRead_16 : decode cL_canRead 16 = .ok (.goto 4, 3) := by decide +kernel
theorem dL_canRead_19 : decode cL_canRead 19 = .ok (.lconst 0, 1) := by decide +kernel
theorem dL_canRead_20 : decode cL_canRead 20 = .ok (.lastore, 1) := by decide +kernel
theorem dL_canRead_21 : decode cL_canRead 21 = .ok (.goto 11, 3) := by decide +kernel
theorem dL_canRead_24 : decode cL_canRead 24 = .ok (.astore 6, 2) := by decide +kernel
theorem dL_canRead_26 : decode cL_canRead 26 = .ok (.iconst 1, 1) := by decide +kernel
theorem dL_canRead_27 : decode cL_canRead 27 = .ok (.ireturn, 1) := by decide +kernel
theorem dL_canRead_28 : decode cL_canRead 28 = .ok (.astore 6, 2) := by decide +kernel
theorem dL_canRead_30 : decode cL_canRead 30 = .ok (.iconst 2, 1) := by decide +kernel
theorem dL_canRead_31 : decode cL_canRead 31 = .ok (.ireturn, 1) := by decide +kernel
theorem dL_canRead_32 : decode cL_canRead 32 = .ok (.iconst 0, 1) := by decide +kernel
theorem dL_canRead_33 : decode cL_canRead 33 = .ok (.ireturn, 1) := by decide +kernel
theorem dL_readsAll_0 : decode cL_readsAll 0 = .ok (.aload 5, 2) := by decide +kernel
theorem dL_readsAll_2 : decode cL_readsAll 2 = .ok (.iconst 0, 1) := by decide +kernel
theorem dL_readsAll_3 : decode cL_readsAll 3 = .ok (.aload_n 0, 1) := by decide +kernel
theorem dL_readsAll_4 : decode cL_readsAll 4 = .ok (.iload_n 1, 1) := by decide +kernel
theorem dL_readsAll_5 : decode cL_readsAll 5 = .ok (.iload_n 2, 1) := by decide +kernel
theorem dL_readsAll_6 : decode cL_readsAll 6 = .ok (.iload_n 3, 1) := by decide +kernel
theorem dL_readsAll_7 : decode cL_readsAll 7 = .ok (.iload 4, 2) := by decide +kernel
theorem dL_readsAll_9 : decode cL_readsAll 9 = .ok (.invokevirtual 55, 3) := by decide +kernel
theorem dL_readsAll_12 : decode cL_readsAll 12 = .ok (.ifCond .eq 7, 3) := by decide +kernel
theorem dL_readsAll_15 : decode cL_readsAll 15 = .ok (.lconst 1, 1) := by decide +kernel
theorem dL_readsAll_16 : decode cL_readsAll 16 = .ok (.goto 4, 3) := by decide +kernel
theorem dL_readsAll_19 : decode cL_readsAll 19 = .ok (.lconst 0, 1) := by decide +kernel
theorem dL_readsAll_20 : decode cL_readsAll 20 = .ok (.lastore, 1) := by decide +kernel
theorem dL_readsAll_21 : decode cL_readsAll 21 = .ok (.goto 15, 3) := by decide +kernel
theorem dL_readsAll_24 : decode cL_readsAll 24 = .ok (.astore 6, 2) := by decide +kernel
theorem dL_readsAll_26 : decode cL_readsAll 26 = .ok (.iconst 1, 1) := by decide +kernel
theorem dL_readsAll_27 : decode cL_readsAll 27 = .ok (.ireturn, 1) := by decide +kernel
theorem dL_readsAll_28 : decode cL_readsAll 28 = .ok (.astore 6, 2) := by decide +kernel
theorem dL_readsAll_30 : decode cL_readsAll 30 = .ok (.iconst 2, 1) := by decide +kernel
theorem dL_readsAll_31 : decode cL_readsAll 31 = .ok (.ireturn, 1) := by decide +kernel
theorem dL_readsAll_32 : decode cL_readsAll 32 = .ok (.astore 6, 2) := by decide +kernel
theorem dL_readsAll_34 : decode cL_readsAll 34 = .ok (.iconst 3, 1) := by decide +kernel
theorem dL_readsAll_35 : decode cL_readsAll 35 = .ok (.ireturn, 1) := by decide +kernel
theorem dL_readsAll_36 : decode cL_readsAll 36 = .ok (.iconst 0, 1) := by decide +kernel
theorem dL_readsAll_37 : decode cL_readsAll 37 = .ok (.ireturn, 1) := by decide +kernel
theorem dL_value_0 : decode cL_value 0 = .ok (.aload_n 2, 1) := by decide +kernel
theorem dL_value_1 : decode cL_value 1 = .ok (.iconst 0, 1) := by decide +kernel
theorem dL_value_2 : decode cL_value 2 = .ok (.aload_n 0, 1) := by decide +kernel
theorem dL_value_3 : decode cL_value 3 = .ok (.iload_n 1, 1) := by decide +kernel
theorem dL_value_4 : decode cL_value 4 = .ok (.invokevirtual 58, 3) := by decide +kernel
theorem dL_value_7 : decode cL_value 7 = .ok (.i2l, 1) := by decide +kernel
theorem dL_value_8 : decode cL_value 8 = .ok (.lastore, 1) := by decide +kernel
theorem dL_value_9 : decode cL_value 9 = .ok (.goto 6, 3) := by decide +kernel
theorem dL_value_12 : decode cL_value 12 = .ok (.astore_n 3, 1) := by decide +kernel
theorem dL_value_13 : decode cL_value 13 = .ok (.iconst 1, 1) := by decide +kernel
theorem dL_value_14 : decode cL_value 14 = .ok (.ireturn, 1) := by decide +kernel
theorem dL_value_15 : decode cL_value 15 = .ok (.iconst 0, 1) := by decide +kernel
theorem dL_value_16 : decode cL_value 16 = .ok (.ireturn, 1) := by decide +kernel
theorem dL_isRecord_0 : decode cL_isRecord 0 = .ok (.aload_n 3, 1) := by decide +kernel
theorem dL_isRecord_1 : decode cL_isRecord 1 = .ok (.iconst 0, 1) := by decide +kernel
theorem dL_isRecord_2 : decode cL_isRecord 2 = .ok (.aload_n 0, 1) := by decide +kernel
theorem dL_isRecord_3 : decode cL_isRecord 3 = .ok (.iload_n 1, 1) := by decide +kernel
theorem dL_isRecord_4 : decode cL_isRecord 4 = .ok (.iload_n 2, 1) := by decide +kernel
theorem dL_isRecord_5 : decode cL_isRecord 5 = .ok (.invokevirtual 61, 3) := by decide +kernel
theorem dL_isRecord_8 : decode cL_isRecord 8 = .ok (.ifCond .eq 7, 3) := by decide +kernel
theorem dL_isRecord_11 : decode cL_isRecord 11 = .ok (.lconst 1, 1) := by decide +kernel
theorem dL_isRecord_12 : decode cL_isRecord 12 = .ok (.goto 4, 3) := by decide +kernel
theorem dL_isRecord_15 : decode cL_isRecord 15 = .ok (.lconst 0, 1) := by decide +kernel
theorem dL_isRecord_16 : decode cL_isRecord 16 = .ok (.lastore, 1) := by decide +kernel
theorem dL_isRecord_17 : decode cL_isRecord 17 = .ok (.goto 11, 3) := by decide +kernel
theorem dL_isRecord_20 : decode cL_isRecord 20 = .ok (.astore 4, 2) := by decide +kernel
theorem dL_isRecord_22 : decode cL_isRecord 22 = .ok (.iconst 1, 1) := by decide +kernel
theorem dL_isRecord_23 : decode cL_isRecord 23 = .ok (.ireturn, 1) := by decide +kernel
theorem dL_isRecord_24 : decode cL_isRecord 24 = .ok (.astore 4, 2) := by decide +kernel
theorem dL_isRecord_26 : decode cL_isRecord 26 = .ok (.iconst 2, 1) := by decide +kernel
theorem dL_isRecord_27 : decode cL_isRecord 27 = .ok (.ireturn, 1) := by decide +kernel
theorem dL_isRecord_28 : decode cL_isRecord 28 = .ok (.iconst 0, 1) := by decide +kernel
theorem dL_isRecord_29 : decode cL_isRecord 29 = .ok (.ireturn, 1) := by decide +kernel
theorem dL_read_0 : decode cL_read 0 = .ok (.aload 5, 2) := by decide +kernel
theorem dL_read_2 : decode cL_read 2 = .ok (.iconst 0, 1) := by decide +kernel
theorem dL_read_3 : decode cL_read 3 = .ok (.aload_n 0, 1) := by decide +kernel
theorem dL_read_4 : decode cL_read 4 = .ok (.iload_n 1, 1) := by decide +kernel
theorem dL_read_5 : decode cL_read 5 = .ok (.iload_n 2, 1) := by decide +kernel
theorem dL_read_6 : decode cL_read 6 = .ok (.iload_n 3, 1) := by decide +kernel
theorem dL_read_7 : decode cL_read 7 = .ok (.iload 4, 2) := by decide +kernel
theorem dL_read_9 : decode cL_read 9 = .ok (.invokevirtual 64, 3) := by decide +kernel
theorem dL_read_12 : decode cL_read 12 = .ok (.i2l, 1) := by decide +kernel
theorem dL_read_13 : decode cL_read 13 = .ok (.lastore, 1) := by decide +kernel
theorem dL_read_14 : decode cL_read 14 = .ok (.goto 15, 3) := by decide +kernel
theorem dL_read_17 : decode cL_read 17 = .ok (.astore 6, 2) := by decide +kernel
theorem dL_read_19 : decode cL_read 19 = .ok (.iconst 1, 1) := by decide +kernel
theorem dL_read_20 : decode cL_read 20 = .ok (.ireturn, 1) := by decide +kernel
theorem dL_read_21 : decode cL_read 21 = .ok (.astore 6, 2) := by decide +kernel
theorem dL_read_23 : decode cL_read 23 = .ok (.iconst 2, 1) := by decide +kernel
theorem dL_read_24 : decode cL_read 24 = .ok (.ireturn, 1) := by decide +kernel
theorem dL_read_25 : decode cL_read 25 = .ok (.astore 6, 2) := by decide +kernel
theorem dL_read_27 : decode cL_read 27 = .ok (.iconst 3, 1) := by decide +kernel
theorem dL_read_28 : decode cL_read 28 = .ok (.ireturn, 1) := by decide +kernel
theorem dL_read_29 : decode cL_read 29 = .ok (.iconst 0, 1) := by decide +kernel
theorem dL_read_30 : decode cL_read 30 = .ok (.ireturn, 1) := by decide +kernel
theorem dL_valueAt_0 : decode cL_valueAt 0 = .ok (.aload_n 2, 1) := by decide +kernel
theorem dL_valueAt_1 : decode cL_valueAt 1 = .ok (.iconst 0, 1) := by decide +kernel
theorem dL_valueAt_2 : decode cL_valueAt 2 = .ok (.aload_n 0, 1) := by decide +kernel
theorem dL_valueAt_3 : decode cL_valueAt 3 = .ok (.iload_n 1, 1) := by decide +kernel
theorem dL_valueAt_4 : decode cL_valueAt 4 = .ok (.invokevirtual 67, 3) := by decide +kernel
theorem dL_valueAt_7 : decode cL_valueAt 7 = .ok (.i2l, 1) := by decide +kernel
theorem dL_valueAt_8 : decode cL_valueAt 8 = .ok (.lastore, 1) := by decide +kernel
theorem dL_valueAt_9 : decode cL_valueAt 9 = .ok (.goto 6, 3) := by decide +kernel
theorem dL_valueAt_12 : decode cL_valueAt 12 = .ok (.astore_n 3, 1) := by decide +kernel
theorem dL_valueAt_13 : decode cL_valueAt 13 = .ok (.iconst 1, 1) := by decide +kernel
theorem dL_valueAt_14 : decode cL_valueAt 14 = .ok (.ireturn, 1) := by decide +kernel
theorem dL_valueAt_15 : decode cL_valueAt 15 = .ok (.iconst 0, 1) := by decide +kernel
theorem dL_valueAt_16 : decode cL_valueAt 16 = .ok (.ireturn, 1) := by decide +kernel
theorem dL_law_0 : decode cL_law 0 = .ok (.new 8, 3) := by decide +kernel
theorem dL_law_3 : decode cL_law 3 = .ok (.dup, 1) := by decide +kernel
theorem dL_law_4 : decode cL_law 4 = .ok (.invokespecial 70, 3) := by decide +kernel
theorem dL_law_7 : decode cL_law 7 = .ok (.astore_n 1, 1) := by decide +kernel
theorem dL_law_8 : decode cL_law 8 = .ok (.new 71, 3) := by decide +kernel
theorem dL_law_11 : decode cL_law 11 = .ok (.dup, 1) := by decide +kernel
theorem dL_law_12 : decode cL_law 12 = .ok (.invokespecial 73, 3) := by decide +kernel
theorem dL_law_15 : decode cL_law 15 = .ok (.astore_n 2, 1) := by decide +kernel
theorem dL_law_16 : decode cL_law 16 = .ok (.iconst 1, 1) := by decide +kernel
theorem dL_law_17 : decode cL_law 17 = .ok (.newarray .long, 2) := by decide +kernel
theorem dL_law_19 : decode cL_law 19 = .ok (.astore_n 3, 1) := by decide +kernel
theorem dL_law_20 : decode cL_law 20 = .ok (.iconst 0, 1) := by decide +kernel
theorem dL_law_21 : decode cL_law 21 = .ok (.istore 4, 2) := by decide +kernel
theorem dL_law_23 : decode cL_law 23 = .ok (.iload 4, 2) := by decide +kernel
theorem dL_law_25 : decode cL_law 25 = .ok (.aload_n 0, 1) := by decide +kernel
theorem dL_law_26 : decode cL_law 26 = .ok (.arraylength, 1) := by decide +kernel
theorem dL_law_27 : decode cL_law 27 = .ok (.iconst 5, 1) := by decide +kernel
theorem dL_law_28 : decode cL_law 28 = .ok (.isub, 1) := by decide +kernel
theorem dL_law_29 : decode cL_law 29 = .ok (.if_icmp .gt 1330, 3) := by decide +kernel
theorem dL_law_32 : decode cL_law 32 = .ok (.aload_n 0, 1) := by decide +kernel
theorem dL_law_33 : decode cL_law 33 = .ok (.iload 4, 2) := by decide +kernel
theorem dL_law_35 : decode cL_law 35 = .ok (.iaload, 1) := by decide +kernel
theorem dL_law_36 : decode cL_law 36 = .ok (.bipush 31, 2) := by decide +kernel
theorem dL_law_38 : decode cL_law 38 = .ok (.iand, 1) := by decide +kernel
theorem dL_law_39 : decode cL_law 39 = .ok (.tableswitch 1314 0 17 #[85, 177, 233, 246, 309, 365, 461, 557, 613, 681, 756, 824, 923, 1022, 1078, 1091, 1166, 1258], 85) := by decide +kernel
theorem dL_law_124 : decode cL_law 124 = .ok (.aload_n 1, 1) := by decide +kernel
theorem dL_law_125 : decode cL_law 125 = .ok (.aload_n 0, 1) := by decide +kernel
theorem dL_law_126 : decode cL_law 126 = .ok (.iload 4, 2) := by decide +kernel
theorem dL_law_128 : decode cL_law 128 = .ok (.iconst 1, 1) := by decide +kernel
theorem dL_law_129 : decode cL_law 129 = .ok (.iadd, 1) := by decide +kernel
theorem dL_law_130 : decode cL_law 130 = .ok (.iaload, 1) := by decide +kernel
theorem dL_law_131 : decode cL_law 131 = .ok (.aload_n 0, 1) := by decide +kernel
theorem dL_law_132 : decode cL_law 132 = .ok (.iload 4, 2) := by decide +kernel
theorem dL_law_134 : decode cL_law 134 = .ok (.iconst 2, 1) := by decide +kernel
theorem dL_law_135 : decode cL_law 135 = .ok (.iadd, 1) := by decide +kernel
theorem dL_law_136 : decode cL_law 136 = .ok (.iaload, 1) := by decide +kernel
theorem dL_law_137 : decode cL_law 137 = .ok (.aload_n 0, 1) := by decide +kernel
theorem dL_law_138 : decode cL_law 138 = .ok (.iload 4, 2) := by decide +kernel
theorem dL_law_140 : decode cL_law 140 = .ok (.iconst 3, 1) := by decide +kernel
theorem dL_law_141 : decode cL_law 141 = .ok (.iadd, 1) := by decide +kernel
theorem dL_law_142 : decode cL_law 142 = .ok (.iaload, 1) := by decide +kernel
theorem dL_law_143 : decode cL_law 143 = .ok (.aload_n 0, 1) := by decide +kernel
theorem dL_law_144 : decode cL_law 144 = .ok (.iload 4, 2) := by decide +kernel
theorem dL_law_146 : decode cL_law 146 = .ok (.iconst 4, 1) := by decide +kernel
theorem dL_law_147 : decode cL_law 147 = .ok (.iadd, 1) := by decide +kernel
theorem dL_law_148 : decode cL_law 148 = .ok (.iaload, 1) := by decide +kernel
theorem dL_law_149 : decode cL_law 149 = .ok (.aload_n 3, 1) := by decide +kernel
theorem dL_law_150 : decode cL_law 150 = .ok (.invokestatic 74, 3) := by decide +kernel
theorem dL_law_153 : decode cL_law 153 = .ok (.istore 5, 2) := by decide +kernel
theorem dL_law_155 : decode cL_law 155 = .ok (.aload_n 2, 1) := by decide +kernel
theorem dL_law_156 : decode cL_law 156 = .ok (.aload_n 0, 1) := by decide +kernel
theorem dL_law_157 : decode cL_law 157 = .ok (.iload 4, 2) := by decide +kernel
theorem dL_law_159 : decode cL_law 159 = .ok (.iconst 1, 1) := by decide +kernel
theorem dL_law_160 : decode cL_law 160 = .ok (.iadd, 1) := by decide +kernel
theorem dL_law_161 : decode cL_law 161 = .ok (.iaload, 1) := by decide +kernel
theorem dL_law_162 : decode cL_law 162 = .ok (.aload_n 0, 1) := by decide +kernel
theorem dL_law_163 : decode cL_law 163 = .ok (.iload 4, 2) := by decide +kernel
theorem dL_law_165 : decode cL_law 165 = .ok (.iconst 2, 1) := by decide +kernel
theorem dL_law_166 : decode cL_law 166 = .ok (.iadd, 1) := by decide +kernel
theorem dL_law_167 : decode cL_law 167 = .ok (.iaload, 1) := by decide +kernel
theorem dL_law_168 : decode cL_law 168 = .ok (.aload_n 0, 1) := by decide +kernel
theorem dL_law_169 : decode cL_law 169 = .ok (.iload 4, 2) := by decide +kernel
theorem dL_law_171 : decode cL_law 171 = .ok (.iconst 3, 1) := by decide +kernel
theorem dL_law_172 : decode cL_law 172 = .ok (.iadd, 1) := by decide +kernel
theorem dL_law_173 : decode cL_law 173 = .ok (.iaload, 1) := by decide +kernel
theorem dL_law_174 : decode cL_law 174 = .ok (.aload_n 0, 1) := by decide +kernel
theorem dL_law_175 : decode cL_law 175 = .ok (.iload 4, 2) := by decide +kernel
theorem dL_law_177 : decode cL_law 177 = .ok (.iconst 4, 1) := by decide +kernel
theorem dL_law_178 : decode cL_law 178 = .ok (.iadd, 1) := by decide +kernel
theorem dL_law_179 : decode cL_law 179 = .ok (.iaload, 1) := by decide +kernel
theorem dL_law_180 : decode cL_law 180 = .ok (.invokevirtual 79, 3) := by decide +kernel
theorem dL_law_183 : decode cL_law 183 = .ok (.istore 6, 2) := by decide +kernel
theorem dL_law_185 : decode cL_law 185 = .ok (.aload_n 2, 1) := by decide +kernel
theorem dL_law_186 : decode cL_law 186 = .ok (.invokevirtual 80, 3) := by decide +kernel
theorem dL_law_189 : decode cL_law 189 = .ok (.iload 5, 2) := by decide +kernel
theorem dL_law_191 : decode cL_law 191 = .ok (.if_icmp .eq 5, 3) := by decide +kernel
theorem dL_law_194 : decode cL_law 194 = .ok (.iconst 0, 1) := by decide +kernel
theorem dL_law_195 : decode cL_law 195 = .ok (.ireturn, 1) := by decide +kernel
theorem dL_law_196 : decode cL_law 196 = .ok (.iload 5, 2) := by decide +kernel
theorem dL_law_198 : decode cL_law 198 = .ok (.ifCond .ne 15, 3) := by decide +kernel
theorem dL_law_201 : decode cL_law 201 = .ok (.aload_n 3, 1) := by decide +kernel
theorem dL_law_202 : decode cL_law 202 = .ok (.iconst 0, 1) := by decide +kernel
theorem dL_law_203 : decode cL_law 203 = .ok (.laload, 1) := by decide +kernel
theorem dL_law_204 : decode cL_law 204 = .ok (.iload 6, 2) := by decide +kernel
theorem dL_law_206 : decode cL_law 206 = .ok (.i2l, 1) := by decide +kernel
theorem dL_law_207 : decode cL_law 207 = .ok (.lcmp, 1) := by decide +kernel
theorem dL_law_208 : decode cL_law 208 = .ok (.ifCond .eq 5, 3) := by decide +kernel
theorem dL_law_211 : decode cL_law 211 = .ok (.iconst 0, 1) := by decide +kernel
theorem dL_law_212 : decode cL_law 212 = .ok (.ireturn, 1) := by decide +kernel
theorem dL_law_213 : decode cL_law 213 = .ok (.goto 1140, 3) := by decide +kernel
theorem dL_law_216 : decode cL_law 216 = .ok (.aload_n 1, 1) := by decide +kernel
theorem dL_law_217 : decode cL_law 217 = .ok (.aload_n 0, 1) := by decide +kernel
theorem dL_law_218 : decode cL_law 218 = .ok (.iload 4, 2) := by decide +kernel
theorem dL_law_220 : decode cL_law 220 = .ok (.iconst 1, 1) := by decide +kernel
theorem dL_law_221 : decode cL_law 221 = .ok (.iadd, 1) := by decide +kernel
theorem dL_law_222 : decode cL_law 222 = .ok (.iaload, 1) := by decide +kernel
theorem dL_law_223 : decode cL_law 223 = .ok (.aload_n 3, 1) := by decide +kernel
theorem dL_law_224 : decode cL_law 224 = .ok (.invokestatic 84, 3) := by decide +kernel
theorem dL_law_227 : decode cL_law 227 = .ok (.istore 5, 2) := by decide +kernel
theorem dL_law_229 : decode cL_law 229 = .ok (.aload_n 2, 1) := by decide +kernel
theorem dL_law_230 : decode cL_law 230 = .ok (.aload_n 0, 1) := by decide +kernel
theorem dL_law_231 : decode cL_law 231 = .ok (.iload 4, 2) := by decide +kernel
theorem dL_law_233 : decode cL_law 233 = .ok (.iconst 1, 1) := by decide +kernel
theorem dL_law_234 : decode cL_law 234 = .ok (.iadd, 1) := by decide +kernel
theorem dL_law_235 : decode cL_law 235 = .ok (.iaload, 1) := by decide +kernel
theorem dL_law_236 : decode cL_law 236 = .ok (.invokevirtual 87, 3) := by decide +kernel
theorem dL_law_239 : decode cL_law 239 = .ok (.istore 6, 2) := by decide +kernel
theorem dL_law_241 : decode cL_law 241 = .ok (.aload_n 2, 1) := by decide +kernel
theorem dL_law_242 : decode cL_law 242 = .ok (.invokevirtual 80, 3) := by decide +kernel
theorem dL_law_245 : decode cL_law 245 = .ok (.iload 5, 2) := by decide +kernel
theorem dL_law_247 : decode cL_law 247 = .ok (.if_icmp .eq 5, 3) := by decide +kernel
theorem dL_law_250 : decode cL_law 250 = .ok (.iconst 0, 1) := by decide +kernel
theorem dL_law_251 : decode cL_law 251 = .ok (.ireturn, 1) := by decide +kernel
theorem dL_law_252 : decode cL_law 252 = .ok (.iload 5, 2) := by decide +kernel
theorem dL_law_254 : decode cL_law 254 = .ok (.ifCond .ne 15, 3) := by decide +kernel
theorem dL_law_257 : decode cL_law 257 = .ok (.aload_n 3, 1) := by decide +kernel
theorem dL_law_258 : decode cL_law 258 = .ok (.iconst 0, 1) := by decide +kernel
theorem dL_law_259 : decode cL_law 259 = .ok (.laload, 1) := by decide +kernel
theorem dL_law_260 : decode cL_law 260 = .ok (.iload 6, 2) := by decide +kernel
theorem dL_law_262 : decode cL_law 262 = .ok (.i2l, 1) := by decide +kernel
theorem dL_law_263 : decode cL_law 263 = .ok (.lcmp, 1) := by decide +kernel
theorem dL_law_264 : decode cL_law 264 = .ok (.ifCond .eq 5, 3) := by decide +kernel
theorem dL_law_267 : decode cL_law 267 = .ok (.iconst 0, 1) := by decide +kernel
theorem dL_law_268 : decode cL_law 268 = .ok (.ireturn, 1) := by decide +kernel
theorem dL_law_269 : decode cL_law 269 = .ok (.goto 1084, 3) := by decide +kernel
theorem dL_law_272 : decode cL_law 272 = .ok (.aload_n 1, 1) := by decide +kernel
theorem dL_law_273 : decode cL_law 273 = .ok (.invokevirtual 88, 3) := by decide +kernel
theorem dL_law_276 : decode cL_law 276 = .ok (.aload_n 2, 1) := by decide +kernel
theorem dL_law_277 : decode cL_law 277 = .ok (.invokevirtual 91, 3) := by decide +kernel
theorem dL_law_280 : decode cL_law 280 = .ok (.if_icmp .eq 1073, 3) := by decide +kernel
theorem dL_law_283 : decode cL_law 283 = .ok (.iconst 0, 1) := by decide +kernel
theorem dL_law_284 : decode cL_law 284 = .ok (.ireturn, 1) := by decide +kernel
theorem dL_law_285 : decode cL_law 285 = .ok (.aload_n 1, 1) := by decide +kernel
theorem dL_law_286 : decode cL_law 286 = .ok (.aload_n 0, 1) := by decide +kernel
theorem dL_law_287 : decode cL_law 287 = .ok (.iload 4, 2) := by decide +kernel
theorem dL_law_289 : decode cL_law 289 = .ok (.iconst 1, 1) := by decide +kernel
theorem dL_law_290 : decode cL_law 290 = .ok (.iadd, 1) := by decide +kernel
theorem dL_law_291 : decode cL_law 291 = .ok (.iaload, 1) := by decide +kernel
theorem dL_law_292 : decode cL_law 292 = .ok (.aload_n 3, 1) := by decide +kernel
theorem dL_law_293 : decode cL_law 293 = .ok (.invokestatic 92, 3) := by decide +kernel
theorem dL_law_296 : decode cL_law 296 = .ok (.istore 5, 2) := by decide +kernel
theorem dL_law_298 : decode cL_law 298 = .ok (.aload_n 2, 1) := by decide +kernel
theorem dL_law_299 : decode cL_law 299 = .ok (.aload_n 0, 1) := by decide +kernel
theorem dL_law_300 : decode cL_law 300 = .ok (.iload 4, 2) := by decide +kernel
theorem dL_law_302 : decode cL_law 302 = .ok (.iconst 1, 1) := by decide +kernel
theorem dL_law_303 : decode cL_law 303 = .ok (.iadd, 1) := by decide +kernel
theorem dL_law_304 : decode cL_law 304 = .ok (.iaload, 1) := by decide +kernel
theorem dL_law_305 : decode cL_law 305 = .ok (.invokevirtual 94, 3) := by decide +kernel
theorem dL_law_308 : decode cL_law 308 = .ok (.istore 6, 2) := by decide +kernel
theorem dL_law_310 : decode cL_law 310 = .ok (.aload_n 2, 1) := by decide +kernel
theorem dL_law_311 : decode cL_law 311 = .ok (.invokevirtual 80, 3) := by decide +kernel
theorem dL_law_314 : decode cL_law 314 = .ok (.iload 5, 2) := by decide +kernel
theorem dL_law_316 : decode cL_law 316 = .ok (.if_icmp .eq 5, 3) := by decide +kernel
theorem dL_law_319 : decode cL_law 319 = .ok (.iconst 0, 1) := by decide +kernel
theorem dL_law_320 : decode cL_law 320 = .ok (.ireturn, 1) := by decide +kernel
theorem dL_law_321 : decode cL_law 321 = .ok (.iload 5, 2) := by decide +kernel
theorem dL_law_323 : decode cL_law 323 = .ok (.ifCond .ne 22, 3) := by decide +kernel
theorem dL_law_326 : decode cL_law 326 = .ok (.aload_n 3, 1) := by decide +kernel
theorem dL_law_327 : decode cL_law 327 = .ok (.iconst 0, 1) := by decide +kernel
theorem dL_law_328 : decode cL_law 328 = .ok (.laload, 1) := by decide +kernel
theorem dL_law_329 : decode cL_law 329 = .ok (.iload 6, 2) := by decide +kernel
theorem dL_law_331 : decode cL_law 331 = .ok (.ifCond .eq 7, 3) := by decide +kernel
theorem dL_law_334 : decode cL_law 334 = .ok (.lconst 1, 1) := by decide +kernel
theorem dL_law_335 : decode cL_law 335 = .ok (.goto 4, 3) := by decide +kernel
theorem dL_law_338 : decode cL_law 338 = .ok (.lconst 0, 1) := by decide +kernel
theorem dL_law_339 : decode cL_law 339 = .ok (.lcmp, 1) := by decide +kernel
theorem dL_law_340 : decode cL_law 340 = .ok (.ifCond .eq 5, 3) := by decide +kernel
theorem dL_law_343 : decode cL_law 343 = .ok (.iconst 0, 1) := by decide +kernel
theorem dL_law_344 : decode cL_law 344 = .ok (.ireturn, 1) := by decide +kernel
theorem dL_law_345 : decode cL_law 345 = .ok (.goto 1008, 3) := by decide +kernel
theorem dL_law_348 : decode cL_law 348 = .ok (.aload_n 1, 1) := by decide +kernel
theorem dL_law_349 : decode cL_law 349 = .ok (.aload_n 0, 1) := by decide +kernel
theorem dL_law_350 : decode cL_law 350 = .ok (.iload 4, 2) := by decide +kernel
theorem dL_law_352 : decode cL_law 352 = .ok (.iconst 1, 1) := by decide +kernel
theorem dL_law_353 : decode cL_law 353 = .ok (.iadd, 1) := by decide +kernel
theorem dL_law_354 : decode cL_law 354 = .ok (.iaload, 1) := by decide +kernel
theorem dL_law_355 : decode cL_law 355 = .ok (.aload_n 3, 1) := by decide +kernel
theorem dL_law_356 : decode cL_law 356 = .ok (.invokestatic 95, 3) := by decide +kernel
theorem dL_law_359 : decode cL_law 359 = .ok (.istore 5, 2) := by decide +kernel
theorem dL_law_361 : decode cL_law 361 = .ok (.aload_n 2, 1) := by decide +kernel
theorem dL_law_362 : decode cL_law 362 = .ok (.aload_n 0, 1) := by decide +kernel
theorem dL_law_363 : decode cL_law 363 = .ok (.iload 4, 2) := by decide +kernel
theorem dL_law_365 : decode cL_law 365 = .ok (.iconst 1, 1) := by decide +kernel
theorem dL_law_366 : decode cL_law 366 = .ok (.iadd, 1) := by decide +kernel
theorem dL_law_367 : decode cL_law 367 = .ok (.iaload, 1) := by decide +kernel
theorem dL_law_368 : decode cL_law 368 = .ok (.invokevirtual 97, 3) := by decide +kernel
theorem dL_law_371 : decode cL_law 371 = .ok (.istore 6, 2) := by decide +kernel
theorem dL_law_373 : decode cL_law 373 = .ok (.aload_n 2, 1) := by decide +kernel
theorem dL_law_374 : decode cL_law 374 = .ok (.invokevirtual 80, 3) := by decide +kernel
theorem dL_law_377 : decode cL_law 377 = .ok (.iload 5, 2) := by decide +kernel
theorem dL_law_379 : decode cL_law 379 = .ok (.if_icmp .eq 5, 3) := by decide +kernel
theorem dL_law_382 : decode cL_law 382 = .ok (.iconst 0, 1) := by decide +kernel
theorem dL_law_383 : decode cL_law 383 = .ok (.ireturn, 1) := by decide +kernel
theorem dL_law_384 : decode cL_law 384 = .ok (.iload 5, 2) := by decide +kernel
theorem dL_law_386 : decode cL_law 386 = .ok (.ifCond .ne 15, 3) := by decide +kernel
theorem dL_law_389 : decode cL_law 389 = .ok (.aload_n 3, 1) := by decide +kernel
theorem dL_law_390 : decode cL_law 390 = .ok (.iconst 0, 1) := by decide +kernel
theorem dL_law_391 : decode cL_law 391 = .ok (.laload, 1) := by decide +kernel
theorem dL_law_392 : decode cL_law 392 = .ok (.iload 6, 2) := by decide +kernel
theorem dL_law_394 : decode cL_law 394 = .ok (.i2l, 1) := by decide +kernel
theorem dL_law_395 : decode cL_law 395 = .ok (.lcmp, 1) := by decide +kernel
theorem dL_law_396 : decode cL_law 396 = .ok (.ifCond .eq 5, 3) := by decide +kernel
theorem dL_law_399 : decode cL_law 399 = .ok (.iconst 0, 1) := by decide +kernel
theorem dL_law_400 : decode cL_law 400 = .ok (.ireturn, 1) := by decide +kernel
theorem dL_law_401 : decode cL_law 401 = .ok (.goto 952, 3) := by decide +kernel
theorem dL_law_404 : decode cL_law 404 = .ok (.aload_n 1, 1) := by decide +kernel
theorem dL_law_405 : decode cL_law 405 = .ok (.aload_n 0, 1) := by decide +kernel
theorem dL_law_406 : decode cL_law 406 = .ok (.iload 4, 2) := by decide +kernel
theorem dL_law_408 : decode cL_law 408 = .ok (.iconst 1, 1) := by decide +kernel
theorem dL_law_409 : decode cL_law 409 = .ok (.iadd, 1) := by decide +kernel
theorem dL_law_410 : decode cL_law 410 = .ok (.iaload, 1) := by decide +kernel
theorem dL_law_411 : decode cL_law 411 = .ok (.aload_n 0, 1) := by decide +kernel
theorem dL_law_412 : decode cL_law 412 = .ok (.iload 4, 2) := by decide +kernel
theorem dL_law_414 : decode cL_law 414 = .ok (.iconst 2, 1) := by decide +kernel
theorem dL_law_415 : decode cL_law 415 = .ok (.iadd, 1) := by decide +kernel
theorem dL_law_416 : decode cL_law 416 = .ok (.iaload, 1) := by decide +kernel
theorem dL_law_417 : decode cL_law 417 = .ok (.aload_n 0, 1) := by decide +kernel
theorem dL_law_418 : decode cL_law 418 = .ok (.iload 4, 2) := by decide +kernel
theorem dL_law_420 : decode cL_law 420 = .ok (.iconst 3, 1) := by decide +kernel
theorem dL_law_421 : decode cL_law 421 = .ok (.iadd, 1) := by decide +kernel
theorem dL_law_422 : decode cL_law 422 = .ok (.iaload, 1) := by decide +kernel
theorem dL_law_423 : decode cL_law 423 = .ok (.ifCond .eq 7, 3) := by decide +kernel
theorem dL_law_426 : decode cL_law 426 = .ok (.iconst 1, 1) := by decide +kernel
theorem dL_law_427 : decode cL_law 427 = .ok (.goto 4, 3) := by decide +kernel
theorem dL_law_430 : decode cL_law 430 = .ok (.iconst 0, 1) := by decide +kernel
theorem dL_law_431 : decode cL_law 431 = .ok (.aload_n 3, 1) := by decide +kernel
theorem dL_law_432 : decode cL_law 432 = .ok (.invokestatic 98, 3) := by decide +kernel
theorem dL_law_435 : decode cL_law 435 = .ok (.istore 5, 2) := by decide +kernel
theorem dL_law_437 : decode cL_law 437 = .ok (.aload_n 2, 1) := by decide +kernel
theorem dL_law_438 : decode cL_law 438 = .ok (.aload_n 0, 1) := by decide +kernel
theorem dL_law_439 : decode cL_law 439 = .ok (.iload 4, 2) := by decide +kernel
theorem dL_law_441 : decode cL_law 441 = .ok (.iconst 1, 1) := by decide +kernel
theorem dL_law_442 : decode cL_law 442 = .ok (.iadd, 1) := by decide +kernel
theorem dL_law_443 : decode cL_law 443 = .ok (.iaload, 1) := by decide +kernel
theorem dL_law_444 : decode cL_law 444 = .ok (.aload_n 0, 1) := by decide +kernel
theorem dL_law_445 : decode cL_law 445 = .ok (.iload 4, 2) := by decide +kernel
theorem dL_law_447 : decode cL_law 447 = .ok (.iconst 2, 1) := by decide +kernel
theorem dL_law_448 : decode cL_law 448 = .ok (.iadd, 1) := by decide +kernel
theorem dL_law_449 : decode cL_law 449 = .ok (.iaload, 1) := by decide +kernel
theorem dL_law_450 : decode cL_law 450 = .ok (.aload_n 0, 1) := by decide +kernel
theorem dL_law_451 : decode cL_law 451 = .ok (.iload 4, 2) := by decide +kernel
theorem dL_law_453 : decode cL_law 453 = .ok (.iconst 3, 1) := by decide +kernel
theorem dL_law_454 : decode cL_law 454 = .ok (.iadd, 1) := by decide +kernel
theorem dL_law_455 : decode cL_law 455 = .ok (.iaload, 1) := by decide +kernel
theorem dL_law_456 : decode cL_law 456 = .ok (.ifCond .eq 7, 3) := by decide +kernel
theorem dL_law_459 : decode cL_law 459 = .ok (.iconst 1, 1) := by decide +kernel
theorem dL_law_460 : decode cL_law 460 = .ok (.goto 4, 3) := by decide +kernel
theorem dL_law_463 : decode cL_law 463 = .ok (.iconst 0, 1) := by decide +kernel
theorem dL_law_464 : decode cL_law 464 = .ok (.invokevirtual 101, 3) := by decide +kernel
theorem dL_law_467 : decode cL_law 467 = .ok (.istore 6, 2) := by decide +kernel
theorem dL_law_469 : decode cL_law 469 = .ok (.aload_n 2, 1) := by decide +kernel
theorem dL_law_470 : decode cL_law 470 = .ok (.invokevirtual 80, 3) := by decide +kernel
theorem dL_law_473 : decode cL_law 473 = .ok (.iload 5, 2) := by decide +kernel
theorem dL_law_475 : decode cL_law 475 = .ok (.if_icmp .eq 5, 3) := by decide +kernel
theorem dL_law_478 : decode cL_law 478 = .ok (.iconst 0, 1) := by decide +kernel
theorem dL_law_479 : decode cL_law 479 = .ok (.ireturn, 1) := by decide +kernel
theorem dL_law_480 : decode cL_law 480 = .ok (.iload 5, 2) := by decide +kernel
theorem dL_law_482 : decode cL_law 482 = .ok (.ifCond .ne 15, 3) := by decide +kernel
theorem dL_law_485 : decode cL_law 485 = .ok (.aload_n 3, 1) := by decide +kernel
theorem dL_law_486 : decode cL_law 486 = .ok (.iconst 0, 1) := by decide +kernel
theorem dL_law_487 : decode cL_law 487 = .ok (.laload, 1) := by decide +kernel
theorem dL_law_488 : decode cL_law 488 = .ok (.iload 6, 2) := by decide +kernel
theorem dL_law_490 : decode cL_law 490 = .ok (.i2l, 1) := by decide +kernel
theorem dL_law_491 : decode cL_law 491 = .ok (.lcmp, 1) := by decide +kernel
theorem dL_law_492 : decode cL_law 492 = .ok (.ifCond .eq 5, 3) := by decide +kernel
theorem dL_law_495 : decode cL_law 495 = .ok (.iconst 0, 1) := by decide +kernel
theorem dL_law_496 : decode cL_law 496 = .ok (.ireturn, 1) := by decide +kernel
theorem dL_law_497 : decode cL_law 497 = .ok (.goto 856, 3) := by decide +kernel
theorem dL_law_500 : decode cL_law 500 = .ok (.aload_n 1, 1) := by decide +kernel
theorem dL_law_501 : decode cL_law 501 = .ok (.aload_n 0, 1) := by decide +kernel
theorem dL_law_502 : decode cL_law 502 = .ok (.iload 4, 2) := by decide +kernel
theorem dL_law_504 : decode cL_law 504 = .ok (.iconst 1, 1) := by decide +kernel
theorem dL_law_505 : decode cL_law 505 = .ok (.iadd, 1) := by decide +kernel
theorem dL_law_506 : decode cL_law 506 = .ok (.iaload, 1) := by decide +kernel
theorem dL_law_507 : decode cL_law 507 = .ok (.aload_n 0, 1) := by decide +kernel
theorem dL_law_508 : decode cL_law 508 = .ok (.iload 4, 2) := by decide +kernel
theorem dL_law_510 : decode cL_law 510 = .ok (.iconst 2, 1) := by decide +kernel
theorem dL_law_511 : decode cL_law 511 = .ok (.iadd, 1) := by decide +kernel
theorem dL_law_512 : decode cL_law 512 = .ok (.iaload, 1) := by decide +kernel
theorem dL_law_513 : decode cL_law 513 = .ok (.aload_n 0, 1) := by decide +kernel
theorem dL_law_514 : decode cL_law 514 = .ok (.iload 4, 2) := by decide +kernel
theorem dL_law_516 : decode cL_law 516 = .ok (.iconst 3, 1) := by decide +kernel
theorem dL_law_517 : decode cL_law 517 = .ok (.iadd, 1) := by decide +kernel
theorem dL_law_518 : decode cL_law 518 = .ok (.iaload, 1) := by decide +kernel
theorem dL_law_519 : decode cL_law 519 = .ok (.ifCond .eq 7, 3) := by decide +kernel
theorem dL_law_522 : decode cL_law 522 = .ok (.iconst 1, 1) := by decide +kernel
theorem dL_law_523 : decode cL_law 523 = .ok (.goto 4, 3) := by decide +kernel
theorem dL_law_526 : decode cL_law 526 = .ok (.iconst 0, 1) := by decide +kernel
theorem dL_law_527 : decode cL_law 527 = .ok (.aload_n 3, 1) := by decide +kernel
theorem dL_law_528 : decode cL_law 528 = .ok (.invokestatic 102, 3) := by decide +kernel
theorem dL_law_531 : decode cL_law 531 = .ok (.istore 5, 2) := by decide +kernel
theorem dL_law_533 : decode cL_law 533 = .ok (.aload_n 2, 1) := by decide +kernel
theorem dL_law_534 : decode cL_law 534 = .ok (.aload_n 0, 1) := by decide +kernel
theorem dL_law_535 : decode cL_law 535 = .ok (.iload 4, 2) := by decide +kernel
theorem dL_law_537 : decode cL_law 537 = .ok (.iconst 1, 1) := by decide +kernel
theorem dL_law_538 : decode cL_law 538 = .ok (.iadd, 1) := by decide +kernel
theorem dL_law_539 : decode cL_law 539 = .ok (.iaload, 1) := by decide +kernel
theorem dL_law_540 : decode cL_law 540 = .ok (.aload_n 0, 1) := by decide +kernel
theorem dL_law_541 : decode cL_law 541 = .ok (.iload 4, 2) := by decide +kernel
theorem dL_law_543 : decode cL_law 543 = .ok (.iconst 2, 1) := by decide +kernel
theorem dL_law_544 : decode cL_law 544 = .ok (.iadd, 1) := by decide +kernel
theorem dL_law_545 : decode cL_law 545 = .ok (.iaload, 1) := by decide +kernel
theorem dL_law_546 : decode cL_law 546 = .ok (.aload_n 0, 1) := by decide +kernel
theorem dL_law_547 : decode cL_law 547 = .ok (.iload 4, 2) := by decide +kernel
theorem dL_law_549 : decode cL_law 549 = .ok (.iconst 3, 1) := by decide +kernel
theorem dL_law_550 : decode cL_law 550 = .ok (.iadd, 1) := by decide +kernel
theorem dL_law_551 : decode cL_law 551 = .ok (.iaload, 1) := by decide +kernel
theorem dL_law_552 : decode cL_law 552 = .ok (.ifCond .eq 7, 3) := by decide +kernel
theorem dL_law_555 : decode cL_law 555 = .ok (.iconst 1, 1) := by decide +kernel
theorem dL_law_556 : decode cL_law 556 = .ok (.goto 4, 3) := by decide +kernel
theorem dL_law_559 : decode cL_law 559 = .ok (.iconst 0, 1) := by decide +kernel
theorem dL_law_560 : decode cL_law 560 = .ok (.invokevirtual 104, 3) := by decide +kernel
theorem dL_law_563 : decode cL_law 563 = .ok (.istore 6, 2) := by decide +kernel
theorem dL_law_565 : decode cL_law 565 = .ok (.aload_n 2, 1) := by decide +kernel
theorem dL_law_566 : decode cL_law 566 = .ok (.invokevirtual 80, 3) := by decide +kernel
theorem dL_law_569 : decode cL_law 569 = .ok (.iload 5, 2) := by decide +kernel
theorem dL_law_571 : decode cL_law 571 = .ok (.if_icmp .eq 5, 3) := by decide +kernel
theorem dL_law_574 : decode cL_law 574 = .ok (.iconst 0, 1) := by decide +kernel
theorem dL_law_575 : decode cL_law 575 = .ok (.ireturn, 1) := by decide +kernel
theorem dL_law_576 : decode cL_law 576 = .ok (.iload 5, 2) := by decide +kernel
theorem dL_law_578 : decode cL_law 578 = .ok (.ifCond .ne 15, 3) := by decide +kernel
theorem dL_law_581 : decode cL_law 581 = .ok (.aload_n 3, 1) := by decide +kernel
theorem dL_law_582 : decode cL_law 582 = .ok (.iconst 0, 1) := by decide +kernel
theorem dL_law_583 : decode cL_law 583 = .ok (.laload, 1) := by decide +kernel
theorem dL_law_584 : decode cL_law 584 = .ok (.iload 6, 2) := by decide +kernel
theorem dL_law_586 : decode cL_law 586 = .ok (.i2l, 1) := by decide +kernel
theorem dL_law_587 : decode cL_law 587 = .ok (.lcmp, 1) := by decide +kernel
theorem dL_law_588 : decode cL_law 588 = .ok (.ifCond .eq 5, 3) := by decide +kernel
theorem dL_law_591 : decode cL_law 591 = .ok (.iconst 0, 1) := by decide +kernel
theorem dL_law_592 : decode cL_law 592 = .ok (.ireturn, 1) := by decide +kernel
theorem dL_law_593 : decode cL_law 593 = .ok (.goto 760, 3) := by decide +kernel
theorem dL_law_596 : decode cL_law 596 = .ok (.aload_n 1, 1) := by decide +kernel
theorem dL_law_597 : decode cL_law 597 = .ok (.aload_n 0, 1) := by decide +kernel
theorem dL_law_598 : decode cL_law 598 = .ok (.iload 4, 2) := by decide +kernel
theorem dL_law_600 : decode cL_law 600 = .ok (.iconst 1, 1) := by decide +kernel
theorem dL_law_601 : decode cL_law 601 = .ok (.iadd, 1) := by decide +kernel
theorem dL_law_602 : decode cL_law 602 = .ok (.iaload, 1) := by decide +kernel
theorem dL_law_603 : decode cL_law 603 = .ok (.aload_n 3, 1) := by decide +kernel
theorem dL_law_604 : decode cL_law 604 = .ok (.invokestatic 105, 3) := by decide +kernel
theorem dL_law_607 : decode cL_law 607 = .ok (.istore 5, 2) := by decide +kernel
theorem dL_law_609 : decode cL_law 609 = .ok (.aload_n 2, 1) := by decide +kernel
theorem dL_law_610 : decode cL_law 610 = .ok (.aload_n 0, 1) := by decide +kernel
theorem dL_law_611 : decode cL_law 611 = .ok (.iload 4, 2) := by decide +kernel
theorem dL_law_613 : decode cL_law 613 = .ok (.iconst 1, 1) := by decide +kernel
theorem dL_law_614 : decode cL_law 614 = .ok (.iadd, 1) := by decide +kernel
theorem dL_law_615 : decode cL_law 615 = .ok (.iaload, 1) := by decide +kernel
theorem dL_law_616 : decode cL_law 616 = .ok (.invokevirtual 107, 3) := by decide +kernel
theorem dL_law_619 : decode cL_law 619 = .ok (.istore 6, 2) := by decide +kernel
theorem dL_law_621 : decode cL_law 621 = .ok (.aload_n 2, 1) := by decide +kernel
theorem dL_law_622 : decode cL_law 622 = .ok (.invokevirtual 80, 3) := by decide +kernel
theorem dL_law_625 : decode cL_law 625 = .ok (.iload 5, 2) := by decide +kernel
theorem dL_law_627 : decode cL_law 627 = .ok (.if_icmp .eq 5, 3) := by decide +kernel
theorem dL_law_630 : decode cL_law 630 = .ok (.iconst 0, 1) := by decide +kernel
theorem dL_law_631 : decode cL_law 631 = .ok (.ireturn, 1) := by decide +kernel
theorem dL_law_632 : decode cL_law 632 = .ok (.iload 5, 2) := by decide +kernel
theorem dL_law_634 : decode cL_law 634 = .ok (.ifCond .ne 15, 3) := by decide +kernel
theorem dL_law_637 : decode cL_law 637 = .ok (.aload_n 3, 1) := by decide +kernel
theorem dL_law_638 : decode cL_law 638 = .ok (.iconst 0, 1) := by decide +kernel
theorem dL_law_639 : decode cL_law 639 = .ok (.laload, 1) := by decide +kernel
theorem dL_law_640 : decode cL_law 640 = .ok (.iload 6, 2) := by decide +kernel
theorem dL_law_642 : decode cL_law 642 = .ok (.i2l, 1) := by decide +kernel
theorem dL_law_643 : decode cL_law 643 = .ok (.lcmp, 1) := by decide +kernel
theorem dL_law_644 : decode cL_law 644 = .ok (.ifCond .eq 5, 3) := by decide +kernel
theorem dL_law_647 : decode cL_law 647 = .ok (.iconst 0, 1) := by decide +kernel
theorem dL_law_648 : decode cL_law 648 = .ok (.ireturn, 1) := by decide +kernel
theorem dL_law_649 : decode cL_law 649 = .ok (.goto 704, 3) := by decide +kernel
theorem dL_law_652 : decode cL_law 652 = .ok (.aload_n 1, 1) := by decide +kernel
theorem dL_law_653 : decode cL_law 653 = .ok (.aload_n 0, 1) := by decide +kernel
theorem dL_law_654 : decode cL_law 654 = .ok (.iload 4, 2) := by decide +kernel
theorem dL_law_656 : decode cL_law 656 = .ok (.iconst 1, 1) := by decide +kernel
theorem dL_law_657 : decode cL_law 657 = .ok (.iadd, 1) := by decide +kernel
theorem dL_law_658 : decode cL_law 658 = .ok (.iaload, 1) := by decide +kernel
theorem dL_law_659 : decode cL_law 659 = .ok (.aload_n 0, 1) := by decide +kernel
theorem dL_law_660 : decode cL_law 660 = .ok (.iload 4, 2) := by decide +kernel
theorem dL_law_662 : decode cL_law 662 = .ok (.iconst 2, 1) := by decide +kernel
theorem dL_law_663 : decode cL_law 663 = .ok (.iadd, 1) := by decide +kernel
theorem dL_law_664 : decode cL_law 664 = .ok (.iaload, 1) := by decide +kernel
theorem dL_law_665 : decode cL_law 665 = .ok (.aload_n 3, 1) := by decide +kernel
theorem dL_law_666 : decode cL_law 666 = .ok (.invokestatic 108, 3) := by decide +kernel
theorem dL_law_669 : decode cL_law 669 = .ok (.istore 5, 2) := by decide +kernel
theorem dL_law_671 : decode cL_law 671 = .ok (.aload_n 2, 1) := by decide +kernel
theorem dL_law_672 : decode cL_law 672 = .ok (.aload_n 0, 1) := by decide +kernel
theorem dL_law_673 : decode cL_law 673 = .ok (.iload 4, 2) := by decide +kernel
theorem dL_law_675 : decode cL_law 675 = .ok (.iconst 1, 1) := by decide +kernel
theorem dL_law_676 : decode cL_law 676 = .ok (.iadd, 1) := by decide +kernel
theorem dL_law_677 : decode cL_law 677 = .ok (.iaload, 1) := by decide +kernel
theorem dL_law_678 : decode cL_law 678 = .ok (.aload_n 0, 1) := by decide +kernel
theorem dL_law_679 : decode cL_law 679 = .ok (.iload 4, 2) := by decide +kernel
theorem dL_law_681 : decode cL_law 681 = .ok (.iconst 2, 1) := by decide +kernel
theorem dL_law_682 : decode cL_law 682 = .ok (.iadd, 1) := by decide +kernel
theorem dL_law_683 : decode cL_law 683 = .ok (.iaload, 1) := by decide +kernel
theorem dL_law_684 : decode cL_law 684 = .ok (.invokevirtual 111, 3) := by decide +kernel
theorem dL_law_687 : decode cL_law 687 = .ok (.istore 6, 2) := by decide +kernel
theorem dL_law_689 : decode cL_law 689 = .ok (.aload_n 2, 1) := by decide +kernel
theorem dL_law_690 : decode cL_law 690 = .ok (.invokevirtual 80, 3) := by decide +kernel
theorem dL_law_693 : decode cL_law 693 = .ok (.iload 5, 2) := by decide +kernel
theorem dL_law_695 : decode cL_law 695 = .ok (.if_icmp .eq 5, 3) := by decide +kernel
theorem dL_law_698 : decode cL_law 698 = .ok (.iconst 0, 1) := by decide +kernel
theorem dL_law_699 : decode cL_law 699 = .ok (.ireturn, 1) := by decide +kernel
theorem dL_law_700 : decode cL_law 700 = .ok (.iload 5, 2) := by decide +kernel
theorem dL_law_702 : decode cL_law 702 = .ok (.ifCond .ne 15, 3) := by decide +kernel
theorem dL_law_705 : decode cL_law 705 = .ok (.aload_n 3, 1) := by decide +kernel
theorem dL_law_706 : decode cL_law 706 = .ok (.iconst 0, 1) := by decide +kernel
theorem dL_law_707 : decode cL_law 707 = .ok (.laload, 1) := by decide +kernel
theorem dL_law_708 : decode cL_law 708 = .ok (.iload 6, 2) := by decide +kernel
theorem dL_law_710 : decode cL_law 710 = .ok (.i2l, 1) := by decide +kernel
theorem dL_law_711 : decode cL_law 711 = .ok (.lcmp, 1) := by decide +kernel
theorem dL_law_712 : decode cL_law 712 = .ok (.ifCond .eq 5, 3) := by decide +kernel
theorem dL_law_715 : decode cL_law 715 = .ok (.iconst 0, 1) := by decide +kernel
theorem dL_law_716 : decode cL_law 716 = .ok (.ireturn, 1) := by decide +kernel
theorem dL_law_717 : decode cL_law 717 = .ok (.goto 636, 3) := by decide +kernel
theorem dL_law_720 : decode cL_law 720 = .ok (.aload_n 1, 1) := by decide +kernel
theorem dL_law_721 : decode cL_law 721 = .ok (.aload_n 0, 1) := by decide +kernel
theorem dL_law_722 : decode cL_law 722 = .ok (.iload 4, 2) := by decide +kernel
theorem dL_law_724 : decode cL_law 724 = .ok (.iconst 1, 1) := by decide +kernel
theorem dL_law_725 : decode cL_law 725 = .ok (.iadd, 1) := by decide +kernel
theorem dL_law_726 : decode cL_law 726 = .ok (.iaload, 1) := by decide +kernel
theorem dL_law_727 : decode cL_law 727 = .ok (.aload_n 0, 1) := by decide +kernel
theorem dL_law_728 : decode cL_law 728 = .ok (.iload 4, 2) := by decide +kernel
theorem dL_law_730 : decode cL_law 730 = .ok (.iconst 2, 1) := by decide +kernel
theorem dL_law_731 : decode cL_law 731 = .ok (.iadd, 1) := by decide +kernel
theorem dL_law_732 : decode cL_law 732 = .ok (.iaload, 1) := by decide +kernel
theorem dL_law_733 : decode cL_law 733 = .ok (.aload_n 3, 1) := by decide +kernel
theorem dL_law_734 : decode cL_law 734 = .ok (.invokestatic 112, 3) := by decide +kernel
theorem dL_law_737 : decode cL_law 737 = .ok (.istore 5, 2) := by decide +kernel
theorem dL_law_739 : decode cL_law 739 = .ok (.aload_n 2, 1) := by decide +kernel
theorem dL_law_740 : decode cL_law 740 = .ok (.aload_n 0, 1) := by decide +kernel
theorem dL_law_741 : decode cL_law 741 = .ok (.iload 4, 2) := by decide +kernel
theorem dL_law_743 : decode cL_law 743 = .ok (.iconst 1, 1) := by decide +kernel
theorem dL_law_744 : decode cL_law 744 = .ok (.iadd, 1) := by decide +kernel
theorem dL_law_745 : decode cL_law 745 = .ok (.iaload, 1) := by decide +kernel
theorem dL_law_746 : decode cL_law 746 = .ok (.aload_n 0, 1) := by decide +kernel
theorem dL_law_747 : decode cL_law 747 = .ok (.iload 4, 2) := by decide +kernel
theorem dL_law_749 : decode cL_law 749 = .ok (.iconst 2, 1) := by decide +kernel
theorem dL_law_750 : decode cL_law 750 = .ok (.iadd, 1) := by decide +kernel
theorem dL_law_751 : decode cL_law 751 = .ok (.iaload, 1) := by decide +kernel
theorem dL_law_752 : decode cL_law 752 = .ok (.invokevirtual 114, 3) := by decide +kernel
theorem dL_law_755 : decode cL_law 755 = .ok (.istore 6, 2) := by decide +kernel
theorem dL_law_757 : decode cL_law 757 = .ok (.aload_n 2, 1) := by decide +kernel
theorem dL_law_758 : decode cL_law 758 = .ok (.invokevirtual 80, 3) := by decide +kernel
theorem dL_law_761 : decode cL_law 761 = .ok (.iload 5, 2) := by decide +kernel
theorem dL_law_763 : decode cL_law 763 = .ok (.if_icmp .eq 5, 3) := by decide +kernel
theorem dL_law_766 : decode cL_law 766 = .ok (.iconst 0, 1) := by decide +kernel
theorem dL_law_767 : decode cL_law 767 = .ok (.ireturn, 1) := by decide +kernel
theorem dL_law_768 : decode cL_law 768 = .ok (.iload 5, 2) := by decide +kernel
theorem dL_law_770 : decode cL_law 770 = .ok (.ifCond .ne 22, 3) := by decide +kernel
theorem dL_law_773 : decode cL_law 773 = .ok (.aload_n 3, 1) := by decide +kernel
theorem dL_law_774 : decode cL_law 774 = .ok (.iconst 0, 1) := by decide +kernel
theorem dL_law_775 : decode cL_law 775 = .ok (.laload, 1) := by decide +kernel
theorem dL_law_776 : decode cL_law 776 = .ok (.iload 6, 2) := by decide +kernel
theorem dL_law_778 : decode cL_law 778 = .ok (.ifCond .eq 7, 3) := by decide +kernel
theorem dL_law_781 : decode cL_law 781 = .ok (.lconst 1, 1) := by decide +kernel
theorem dL_law_782 : decode cL_law 782 = .ok (.goto 4, 3) := by decide +kernel
theorem dL_law_785 : decode cL_law 785 = .ok (.lconst 0, 1) := by decide +kernel
theorem dL_law_786 : decode cL_law 786 = .ok (.lcmp, 1) := by decide +kernel
theorem dL_law_787 : decode cL_law 787 = .ok (.ifCond .eq 5, 3) := by decide +kernel
theorem dL_law_790 : decode cL_law 790 = .ok (.iconst 0, 1) := by decide +kernel
theorem dL_law_791 : decode cL_law 791 = .ok (.ireturn, 1) := by decide +kernel
theorem dL_law_792 : decode cL_law 792 = .ok (.goto 561, 3) := by decide +kernel
theorem dL_law_795 : decode cL_law 795 = .ok (.aload_n 1, 1) := by decide +kernel
theorem dL_law_796 : decode cL_law 796 = .ok (.aload_n 0, 1) := by decide +kernel
theorem dL_law_797 : decode cL_law 797 = .ok (.iload 4, 2) := by decide +kernel
theorem dL_law_799 : decode cL_law 799 = .ok (.iconst 1, 1) := by decide +kernel
theorem dL_law_800 : decode cL_law 800 = .ok (.iadd, 1) := by decide +kernel
theorem dL_law_801 : decode cL_law 801 = .ok (.iaload, 1) := by decide +kernel
theorem dL_law_802 : decode cL_law 802 = .ok (.aload_n 0, 1) := by decide +kernel
theorem dL_law_803 : decode cL_law 803 = .ok (.iload 4, 2) := by decide +kernel
theorem dL_law_805 : decode cL_law 805 = .ok (.iconst 2, 1) := by decide +kernel
theorem dL_law_806 : decode cL_law 806 = .ok (.iadd, 1) := by decide +kernel
theorem dL_law_807 : decode cL_law 807 = .ok (.iaload, 1) := by decide +kernel
theorem dL_law_808 : decode cL_law 808 = .ok (.aload_n 3, 1) := by decide +kernel
theorem dL_law_809 : decode cL_law 809 = .ok (.invokestatic 115, 3) := by decide +kernel
theorem dL_law_812 : decode cL_law 812 = .ok (.istore 5, 2) := by decide +kernel
theorem dL_law_814 : decode cL_law 814 = .ok (.aload_n 2, 1) := by decide +kernel
theorem dL_law_815 : decode cL_law 815 = .ok (.aload_n 0, 1) := by decide +kernel
theorem dL_law_816 : decode cL_law 816 = .ok (.iload 4, 2) := by decide +kernel
theorem dL_law_818 : decode cL_law 818 = .ok (.iconst 1, 1) := by decide +kernel
theorem dL_law_819 : decode cL_law 819 = .ok (.iadd, 1) := by decide +kernel
theorem dL_law_820 : decode cL_law 820 = .ok (.iaload, 1) := by decide +kernel
theorem dL_law_821 : decode cL_law 821 = .ok (.aload_n 0, 1) := by decide +kernel
theorem dL_law_822 : decode cL_law 822 = .ok (.iload 4, 2) := by decide +kernel
theorem dL_law_824 : decode cL_law 824 = .ok (.iconst 2, 1) := by decide +kernel
theorem dL_law_825 : decode cL_law 825 = .ok (.iadd, 1) := by decide +kernel
theorem dL_law_826 : decode cL_law 826 = .ok (.iaload, 1) := by decide +kernel
theorem dL_law_827 : decode cL_law 827 = .ok (.invokevirtual 117, 3) := by decide +kernel
theorem dL_law_830 : decode cL_law 830 = .ok (.istore 6, 2) := by decide +kernel
theorem dL_law_832 : decode cL_law 832 = .ok (.aload_n 2, 1) := by decide +kernel
theorem dL_law_833 : decode cL_law 833 = .ok (.invokevirtual 80, 3) := by decide +kernel
theorem dL_law_836 : decode cL_law 836 = .ok (.iload 5, 2) := by decide +kernel
theorem dL_law_838 : decode cL_law 838 = .ok (.if_icmp .eq 5, 3) := by decide +kernel
theorem dL_law_841 : decode cL_law 841 = .ok (.iconst 0, 1) := by decide +kernel
theorem dL_law_842 : decode cL_law 842 = .ok (.ireturn, 1) := by decide +kernel
theorem dL_law_843 : decode cL_law 843 = .ok (.iload 5, 2) := by decide +kernel
theorem dL_law_845 : decode cL_law 845 = .ok (.ifCond .ne 15, 3) := by decide +kernel
theorem dL_law_848 : decode cL_law 848 = .ok (.aload_n 3, 1) := by decide +kernel
theorem dL_law_849 : decode cL_law 849 = .ok (.iconst 0, 1) := by decide +kernel
theorem dL_law_850 : decode cL_law 850 = .ok (.laload, 1) := by decide +kernel
theorem dL_law_851 : decode cL_law 851 = .ok (.iload 6, 2) := by decide +kernel
theorem dL_law_853 : decode cL_law 853 = .ok (.i2l, 1) := by decide +kernel
theorem dL_law_854 : decode cL_law 854 = .ok (.lcmp, 1) := by decide +kernel
theorem dL_law_855 : decode cL_law 855 = .ok (.ifCond .eq 5, 3) := by decide +kernel
theorem dL_law_858 : decode cL_law 858 = .ok (.iconst 0, 1) := by decide +kernel
theorem dL_law_859 : decode cL_law 859 = .ok (.ireturn, 1) := by decide +kernel
theorem dL_law_860 : decode cL_law 860 = .ok (.goto 493, 3) := by decide +kernel
theorem dL_law_863 : decode cL_law 863 = .ok (.aload_n 1, 1) := by decide +kernel
theorem dL_law_864 : decode cL_law 864 = .ok (.aload_n 0, 1) := by decide +kernel
theorem dL_law_865 : decode cL_law 865 = .ok (.iload 4, 2) := by decide +kernel
theorem dL_law_867 : decode cL_law 867 = .ok (.iconst 1, 1) := by decide +kernel
theorem dL_law_868 : decode cL_law 868 = .ok (.iadd, 1) := by decide +kernel
theorem dL_law_869 : decode cL_law 869 = .ok (.iaload, 1) := by decide +kernel
theorem dL_law_870 : decode cL_law 870 = .ok (.aload_n 0, 1) := by decide +kernel
theorem dL_law_871 : decode cL_law 871 = .ok (.iload 4, 2) := by decide +kernel
theorem dL_law_873 : decode cL_law 873 = .ok (.iconst 2, 1) := by decide +kernel
theorem dL_law_874 : decode cL_law 874 = .ok (.iadd, 1) := by decide +kernel
theorem dL_law_875 : decode cL_law 875 = .ok (.iaload, 1) := by decide +kernel
theorem dL_law_876 : decode cL_law 876 = .ok (.aload_n 0, 1) := by decide +kernel
theorem dL_law_877 : decode cL_law 877 = .ok (.iload 4, 2) := by decide +kernel
theorem dL_law_879 : decode cL_law 879 = .ok (.iconst 3, 1) := by decide +kernel
theorem dL_law_880 : decode cL_law 880 = .ok (.iadd, 1) := by decide +kernel
theorem dL_law_881 : decode cL_law 881 = .ok (.iaload, 1) := by decide +kernel
theorem dL_law_882 : decode cL_law 882 = .ok (.aload_n 0, 1) := by decide +kernel
theorem dL_law_883 : decode cL_law 883 = .ok (.iload 4, 2) := by decide +kernel
theorem dL_law_885 : decode cL_law 885 = .ok (.iconst 4, 1) := by decide +kernel
theorem dL_law_886 : decode cL_law 886 = .ok (.iadd, 1) := by decide +kernel
theorem dL_law_887 : decode cL_law 887 = .ok (.iaload, 1) := by decide +kernel
theorem dL_law_888 : decode cL_law 888 = .ok (.aload_n 3, 1) := by decide +kernel
theorem dL_law_889 : decode cL_law 889 = .ok (.invokestatic 118, 3) := by decide +kernel
theorem dL_law_892 : decode cL_law 892 = .ok (.istore 5, 2) := by decide +kernel
theorem dL_law_894 : decode cL_law 894 = .ok (.aload_n 2, 1) := by decide +kernel
theorem dL_law_895 : decode cL_law 895 = .ok (.aload_n 0, 1) := by decide +kernel
theorem dL_law_896 : decode cL_law 896 = .ok (.iload 4, 2) := by decide +kernel
theorem dL_law_898 : decode cL_law 898 = .ok (.iconst 1, 1) := by decide +kernel
theorem dL_law_899 : decode cL_law 899 = .ok (.iadd, 1) := by decide +kernel
theorem dL_law_900 : decode cL_law 900 = .ok (.iaload, 1) := by decide +kernel
theorem dL_law_901 : decode cL_law 901 = .ok (.aload_n 0, 1) := by decide +kernel
theorem dL_law_902 : decode cL_law 902 = .ok (.iload 4, 2) := by decide +kernel
theorem dL_law_904 : decode cL_law 904 = .ok (.iconst 2, 1) := by decide +kernel
theorem dL_law_905 : decode cL_law 905 = .ok (.iadd, 1) := by decide +kernel
theorem dL_law_906 : decode cL_law 906 = .ok (.iaload, 1) := by decide +kernel
theorem dL_law_907 : decode cL_law 907 = .ok (.aload_n 0, 1) := by decide +kernel
theorem dL_law_908 : decode cL_law 908 = .ok (.iload 4, 2) := by decide +kernel
theorem dL_law_910 : decode cL_law 910 = .ok (.iconst 3, 1) := by decide +kernel
theorem dL_law_911 : decode cL_law 911 = .ok (.iadd, 1) := by decide +kernel
theorem dL_law_912 : decode cL_law 912 = .ok (.iaload, 1) := by decide +kernel
theorem dL_law_913 : decode cL_law 913 = .ok (.aload_n 0, 1) := by decide +kernel
theorem dL_law_914 : decode cL_law 914 = .ok (.iload 4, 2) := by decide +kernel
theorem dL_law_916 : decode cL_law 916 = .ok (.iconst 4, 1) := by decide +kernel
theorem dL_law_917 : decode cL_law 917 = .ok (.iadd, 1) := by decide +kernel
theorem dL_law_918 : decode cL_law 918 = .ok (.iaload, 1) := by decide +kernel
theorem dL_law_919 : decode cL_law 919 = .ok (.invokevirtual 120, 3) := by decide +kernel
theorem dL_law_922 : decode cL_law 922 = .ok (.istore 6, 2) := by decide +kernel
theorem dL_law_924 : decode cL_law 924 = .ok (.aload_n 2, 1) := by decide +kernel
theorem dL_law_925 : decode cL_law 925 = .ok (.invokevirtual 80, 3) := by decide +kernel
theorem dL_law_928 : decode cL_law 928 = .ok (.iload 5, 2) := by decide +kernel
theorem dL_law_930 : decode cL_law 930 = .ok (.if_icmp .eq 5, 3) := by decide +kernel
theorem dL_law_933 : decode cL_law 933 = .ok (.iconst 0, 1) := by decide +kernel
theorem dL_law_934 : decode cL_law 934 = .ok (.ireturn, 1) := by decide +kernel
theorem dL_law_935 : decode cL_law 935 = .ok (.iload 5, 2) := by decide +kernel
theorem dL_law_937 : decode cL_law 937 = .ok (.ifCond .ne 22, 3) := by decide +kernel
theorem dL_law_940 : decode cL_law 940 = .ok (.aload_n 3, 1) := by decide +kernel
theorem dL_law_941 : decode cL_law 941 = .ok (.iconst 0, 1) := by decide +kernel
theorem dL_law_942 : decode cL_law 942 = .ok (.laload, 1) := by decide +kernel
theorem dL_law_943 : decode cL_law 943 = .ok (.iload 6, 2) := by decide +kernel
theorem dL_law_945 : decode cL_law 945 = .ok (.ifCond .eq 7, 3) := by decide +kernel
theorem dL_law_948 : decode cL_law 948 = .ok (.lconst 1, 1) := by decide +kernel
theorem dL_law_949 : decode cL_law 949 = .ok (.goto 4, 3) := by decide +kernel
theorem dL_law_952 : decode cL_law 952 = .ok (.lconst 0, 1) := by decide +kernel
theorem dL_law_953 : decode cL_law 953 = .ok (.lcmp, 1) := by decide +kernel
theorem dL_law_954 : decode cL_law 954 = .ok (.ifCond .eq 5, 3) := by decide +kernel
theorem dL_law_957 : decode cL_law 957 = .ok (.iconst 0, 1) := by decide +kernel
theorem dL_law_958 : decode cL_law 958 = .ok (.ireturn, 1) := by decide +kernel
theorem dL_law_959 : decode cL_law 959 = .ok (.goto 394, 3) := by decide +kernel
theorem dL_law_962 : decode cL_law 962 = .ok (.aload_n 1, 1) := by decide +kernel
theorem dL_law_963 : decode cL_law 963 = .ok (.aload_n 0, 1) := by decide +kernel
theorem dL_law_964 : decode cL_law 964 = .ok (.iload 4, 2) := by decide +kernel
theorem dL_law_966 : decode cL_law 966 = .ok (.iconst 1, 1) := by decide +kernel
theorem dL_law_967 : decode cL_law 967 = .ok (.iadd, 1) := by decide +kernel
theorem dL_law_968 : decode cL_law 968 = .ok (.iaload, 1) := by decide +kernel
theorem dL_law_969 : decode cL_law 969 = .ok (.aload_n 0, 1) := by decide +kernel
theorem dL_law_970 : decode cL_law 970 = .ok (.iload 4, 2) := by decide +kernel
theorem dL_law_972 : decode cL_law 972 = .ok (.iconst 2, 1) := by decide +kernel
theorem dL_law_973 : decode cL_law 973 = .ok (.iadd, 1) := by decide +kernel
theorem dL_law_974 : decode cL_law 974 = .ok (.iaload, 1) := by decide +kernel
theorem dL_law_975 : decode cL_law 975 = .ok (.aload_n 0, 1) := by decide +kernel
theorem dL_law_976 : decode cL_law 976 = .ok (.iload 4, 2) := by decide +kernel
theorem dL_law_978 : decode cL_law 978 = .ok (.iconst 3, 1) := by decide +kernel
theorem dL_law_979 : decode cL_law 979 = .ok (.iadd, 1) := by decide +kernel
theorem dL_law_980 : decode cL_law 980 = .ok (.iaload, 1) := by decide +kernel
theorem dL_law_981 : decode cL_law 981 = .ok (.aload_n 0, 1) := by decide +kernel
theorem dL_law_982 : decode cL_law 982 = .ok (.iload 4, 2) := by decide +kernel
theorem dL_law_984 : decode cL_law 984 = .ok (.iconst 4, 1) := by decide +kernel
theorem dL_law_985 : decode cL_law 985 = .ok (.iadd, 1) := by decide +kernel
theorem dL_law_986 : decode cL_law 986 = .ok (.iaload, 1) := by decide +kernel
theorem dL_law_987 : decode cL_law 987 = .ok (.aload_n 3, 1) := by decide +kernel
theorem dL_law_988 : decode cL_law 988 = .ok (.invokestatic 121, 3) := by decide +kernel
theorem dL_law_991 : decode cL_law 991 = .ok (.istore 5, 2) := by decide +kernel
theorem dL_law_993 : decode cL_law 993 = .ok (.aload_n 2, 1) := by decide +kernel
theorem dL_law_994 : decode cL_law 994 = .ok (.aload_n 0, 1) := by decide +kernel
theorem dL_law_995 : decode cL_law 995 = .ok (.iload 4, 2) := by decide +kernel
theorem dL_law_997 : decode cL_law 997 = .ok (.iconst 1, 1) := by decide +kernel
theorem dL_law_998 : decode cL_law 998 = .ok (.iadd, 1) := by decide +kernel
theorem dL_law_999 : decode cL_law 999 = .ok (.iaload, 1) := by decide +kernel
theorem dL_law_1000 : decode cL_law 1000 = .ok (.aload_n 0, 1) := by decide +kernel
theorem dL_law_1001 : decode cL_law 1001 = .ok (.iload 4, 2) := by decide +kernel
theorem dL_law_1003 : decode cL_law 1003 = .ok (.iconst 2, 1) := by decide +kernel
theorem dL_law_1004 : decode cL_law 1004 = .ok (.iadd, 1) := by decide +kernel
theorem dL_law_1005 : decode cL_law 1005 = .ok (.iaload, 1) := by decide +kernel
theorem dL_law_1006 : decode cL_law 1006 = .ok (.aload_n 0, 1) := by decide +kernel
theorem dL_law_1007 : decode cL_law 1007 = .ok (.iload 4, 2) := by decide +kernel
theorem dL_law_1009 : decode cL_law 1009 = .ok (.iconst 3, 1) := by decide +kernel
theorem dL_law_1010 : decode cL_law 1010 = .ok (.iadd, 1) := by decide +kernel
theorem dL_law_1011 : decode cL_law 1011 = .ok (.iaload, 1) := by decide +kernel
theorem dL_law_1012 : decode cL_law 1012 = .ok (.aload_n 0, 1) := by decide +kernel
theorem dL_law_1013 : decode cL_law 1013 = .ok (.iload 4, 2) := by decide +kernel
theorem dL_law_1015 : decode cL_law 1015 = .ok (.iconst 4, 1) := by decide +kernel
theorem dL_law_1016 : decode cL_law 1016 = .ok (.iadd, 1) := by decide +kernel
theorem dL_law_1017 : decode cL_law 1017 = .ok (.iaload, 1) := by decide +kernel
theorem dL_law_1018 : decode cL_law 1018 = .ok (.invokevirtual 123, 3) := by decide +kernel
theorem dL_law_1021 : decode cL_law 1021 = .ok (.istore 6, 2) := by decide +kernel
theorem dL_law_1023 : decode cL_law 1023 = .ok (.aload_n 2, 1) := by decide +kernel
theorem dL_law_1024 : decode cL_law 1024 = .ok (.invokevirtual 80, 3) := by decide +kernel
theorem dL_law_1027 : decode cL_law 1027 = .ok (.iload 5, 2) := by decide +kernel
theorem dL_law_1029 : decode cL_law 1029 = .ok (.if_icmp .eq 5, 3) := by decide +kernel
theorem dL_law_1032 : decode cL_law 1032 = .ok (.iconst 0, 1) := by decide +kernel
theorem dL_law_1033 : decode cL_law 1033 = .ok (.ireturn, 1) := by decide +kernel
theorem dL_law_1034 : decode cL_law 1034 = .ok (.iload 5, 2) := by decide +kernel
theorem dL_law_1036 : decode cL_law 1036 = .ok (.ifCond .ne 22, 3) := by decide +kernel
theorem dL_law_1039 : decode cL_law 1039 = .ok (.aload_n 3, 1) := by decide +kernel
theorem dL_law_1040 : decode cL_law 1040 = .ok (.iconst 0, 1) := by decide +kernel
theorem dL_law_1041 : decode cL_law 1041 = .ok (.laload, 1) := by decide +kernel
theorem dL_law_1042 : decode cL_law 1042 = .ok (.iload 6, 2) := by decide +kernel
theorem dL_law_1044 : decode cL_law 1044 = .ok (.ifCond .eq 7, 3) := by decide +kernel
theorem dL_law_1047 : decode cL_law 1047 = .ok (.lconst 1, 1) := by decide +kernel
theorem dL_law_1048 : decode cL_law 1048 = .ok (.goto 4, 3) := by decide +kernel
theorem dL_law_1051 : decode cL_law 1051 = .ok (.lconst 0, 1) := by decide +kernel
theorem dL_law_1052 : decode cL_law 1052 = .ok (.lcmp, 1) := by decide +kernel
theorem dL_law_1053 : decode cL_law 1053 = .ok (.ifCond .eq 5, 3) := by decide +kernel
theorem dL_law_1056 : decode cL_law 1056 = .ok (.iconst 0, 1) := by decide +kernel
theorem dL_law_1057 : decode cL_law 1057 = .ok (.ireturn, 1) := by decide +kernel
theorem dL_law_1058 : decode cL_law 1058 = .ok (.goto 295, 3) := by decide +kernel
theorem dL_law_1061 : decode cL_law 1061 = .ok (.aload_n 1, 1) := by decide +kernel
theorem dL_law_1062 : decode cL_law 1062 = .ok (.aload_n 0, 1) := by decide +kernel
theorem dL_law_1063 : decode cL_law 1063 = .ok (.iload 4, 2) := by decide +kernel
theorem dL_law_1065 : decode cL_law 1065 = .ok (.iconst 1, 1) := by decide +kernel
theorem dL_law_1066 : decode cL_law 1066 = .ok (.iadd, 1) := by decide +kernel
theorem dL_law_1067 : decode cL_law 1067 = .ok (.iaload, 1) := by decide +kernel
theorem dL_law_1068 : decode cL_law 1068 = .ok (.aload_n 3, 1) := by decide +kernel
theorem dL_law_1069 : decode cL_law 1069 = .ok (.invokestatic 124, 3) := by decide +kernel
theorem dL_law_1072 : decode cL_law 1072 = .ok (.istore 5, 2) := by decide +kernel
theorem dL_law_1074 : decode cL_law 1074 = .ok (.aload_n 2, 1) := by decide +kernel
theorem dL_law_1075 : decode cL_law 1075 = .ok (.aload_n 0, 1) := by decide +kernel
theorem dL_law_1076 : decode cL_law 1076 = .ok (.iload 4, 2) := by decide +kernel
theorem dL_law_1078 : decode cL_law 1078 = .ok (.iconst 1, 1) := by decide +kernel
theorem dL_law_1079 : decode cL_law 1079 = .ok (.iadd, 1) := by decide +kernel
theorem dL_law_1080 : decode cL_law 1080 = .ok (.iaload, 1) := by decide +kernel
theorem dL_law_1081 : decode cL_law 1081 = .ok (.invokevirtual 126, 3) := by decide +kernel
theorem dL_law_1084 : decode cL_law 1084 = .ok (.istore 6, 2) := by decide +kernel
theorem dL_law_1086 : decode cL_law 1086 = .ok (.aload_n 2, 1) := by decide +kernel
theorem dL_law_1087 : decode cL_law 1087 = .ok (.invokevirtual 80, 3) := by decide +kernel
theorem dL_law_1090 : decode cL_law 1090 = .ok (.iload 5, 2) := by decide +kernel
theorem dL_law_1092 : decode cL_law 1092 = .ok (.if_icmp .eq 5, 3) := by decide +kernel
theorem dL_law_1095 : decode cL_law 1095 = .ok (.iconst 0, 1) := by decide +kernel
theorem dL_law_1096 : decode cL_law 1096 = .ok (.ireturn, 1) := by decide +kernel
theorem dL_law_1097 : decode cL_law 1097 = .ok (.iload 5, 2) := by decide +kernel
theorem dL_law_1099 : decode cL_law 1099 = .ok (.ifCond .ne 15, 3) := by decide +kernel
theorem dL_law_1102 : decode cL_law 1102 = .ok (.aload_n 3, 1) := by decide +kernel
theorem dL_law_1103 : decode cL_law 1103 = .ok (.iconst 0, 1) := by decide +kernel
theorem dL_law_1104 : decode cL_law 1104 = .ok (.laload, 1) := by decide +kernel
theorem dL_law_1105 : decode cL_law 1105 = .ok (.iload 6, 2) := by decide +kernel
theorem dL_law_1107 : decode cL_law 1107 = .ok (.i2l, 1) := by decide +kernel
theorem dL_law_1108 : decode cL_law 1108 = .ok (.lcmp, 1) := by decide +kernel
theorem dL_law_1109 : decode cL_law 1109 = .ok (.ifCond .eq 5, 3) := by decide +kernel
theorem dL_law_1112 : decode cL_law 1112 = .ok (.iconst 0, 1) := by decide +kernel
theorem dL_law_1113 : decode cL_law 1113 = .ok (.ireturn, 1) := by decide +kernel
theorem dL_law_1114 : decode cL_law 1114 = .ok (.goto 239, 3) := by decide +kernel
theorem dL_law_1117 : decode cL_law 1117 = .ok (.aload_n 1, 1) := by decide +kernel
theorem dL_law_1118 : decode cL_law 1118 = .ok (.invokevirtual 127, 3) := by decide +kernel
theorem dL_law_1121 : decode cL_law 1121 = .ok (.aload_n 2, 1) := by decide +kernel
theorem dL_law_1122 : decode cL_law 1122 = .ok (.invokevirtual 130, 3) := by decide +kernel
theorem dL_law_1125 : decode cL_law 1125 = .ok (.if_icmp .eq 228, 3) := by decide +kernel
theorem dL_law_1128 : decode cL_law 1128 = .ok (.iconst 0, 1) := by decide +kernel
theorem dL_law_1129 : decode cL_law 1129 = .ok (.ireturn, 1) := by decide +kernel
theorem dL_law_1130 : decode cL_law 1130 = .ok (.aload_n 1, 1) := by decide +kernel
theorem dL_law_1131 : decode cL_law 1131 = .ok (.aload_n 0, 1) := by decide +kernel
theorem dL_law_1132 : decode cL_law 1132 = .ok (.iload 4, 2) := by decide +kernel
theorem dL_law_1134 : decode cL_law 1134 = .ok (.iconst 1, 1) := by decide +kernel
theorem dL_law_1135 : decode cL_law 1135 = .ok (.iadd, 1) := by decide +kernel
theorem dL_law_1136 : decode cL_law 1136 = .ok (.iaload, 1) := by decide +kernel
theorem dL_law_1137 : decode cL_law 1137 = .ok (.aload_n 0, 1) := by decide +kernel
theorem dL_law_1138 : decode cL_law 1138 = .ok (.iload 4, 2) := by decide +kernel
theorem dL_law_1140 : decode cL_law 1140 = .ok (.iconst 2, 1) := by decide +kernel
theorem dL_law_1141 : decode cL_law 1141 = .ok (.iadd, 1) := by decide +kernel
theorem dL_law_1142 : decode cL_law 1142 = .ok (.iaload, 1) := by decide +kernel
theorem dL_law_1143 : decode cL_law 1143 = .ok (.aload_n 3, 1) := by decide +kernel
theorem dL_law_1144 : decode cL_law 1144 = .ok (.invokestatic 131, 3) := by decide +kernel
theorem dL_law_1147 : decode cL_law 1147 = .ok (.istore 5, 2) := by decide +kernel
theorem dL_law_1149 : decode cL_law 1149 = .ok (.aload_n 2, 1) := by decide +kernel
theorem dL_law_1150 : decode cL_law 1150 = .ok (.aload_n 0, 1) := by decide +kernel
theorem dL_law_1151 : decode cL_law 1151 = .ok (.iload 4, 2) := by decide +kernel
theorem dL_law_1153 : decode cL_law 1153 = .ok (.iconst 1, 1) := by decide +kernel
theorem dL_law_1154 : decode cL_law 1154 = .ok (.iadd, 1) := by decide +kernel
theorem dL_law_1155 : decode cL_law 1155 = .ok (.iaload, 1) := by decide +kernel
theorem dL_law_1156 : decode cL_law 1156 = .ok (.aload_n 0, 1) := by decide +kernel
theorem dL_law_1157 : decode cL_law 1157 = .ok (.iload 4, 2) := by decide +kernel
theorem dL_law_1159 : decode cL_law 1159 = .ok (.iconst 2, 1) := by decide +kernel
theorem dL_law_1160 : decode cL_law 1160 = .ok (.iadd, 1) := by decide +kernel
theorem dL_law_1161 : decode cL_law 1161 = .ok (.iaload, 1) := by decide +kernel
theorem dL_law_1162 : decode cL_law 1162 = .ok (.invokevirtual 133, 3) := by decide +kernel
theorem dL_law_1165 : decode cL_law 1165 = .ok (.istore 6, 2) := by decide +kernel
theorem dL_law_1167 : decode cL_law 1167 = .ok (.aload_n 2, 1) := by decide +kernel
theorem dL_law_1168 : decode cL_law 1168 = .ok (.invokevirtual 80, 3) := by decide +kernel
theorem dL_law_1171 : decode cL_law 1171 = .ok (.iload 5, 2) := by decide +kernel
theorem dL_law_1173 : decode cL_law 1173 = .ok (.if_icmp .eq 5, 3) := by decide +kernel
theorem dL_law_1176 : decode cL_law 1176 = .ok (.iconst 0, 1) := by decide +kernel
theorem dL_law_1177 : decode cL_law 1177 = .ok (.ireturn, 1) := by decide +kernel
theorem dL_law_1178 : decode cL_law 1178 = .ok (.iload 5, 2) := by decide +kernel
theorem dL_law_1180 : decode cL_law 1180 = .ok (.ifCond .ne 22, 3) := by decide +kernel
theorem dL_law_1183 : decode cL_law 1183 = .ok (.aload_n 3, 1) := by decide +kernel
theorem dL_law_1184 : decode cL_law 1184 = .ok (.iconst 0, 1) := by decide +kernel
theorem dL_law_1185 : decode cL_law 1185 = .ok (.laload, 1) := by decide +kernel
theorem dL_law_1186 : decode cL_law 1186 = .ok (.iload 6, 2) := by decide +kernel
theorem dL_law_1188 : decode cL_law 1188 = .ok (.ifCond .eq 7, 3) := by decide +kernel
theorem dL_law_1191 : decode cL_law 1191 = .ok (.lconst 1, 1) := by decide +kernel
theorem dL_law_1192 : decode cL_law 1192 = .ok (.goto 4, 3) := by decide +kernel
theorem dL_law_1195 : decode cL_law 1195 = .ok (.lconst 0, 1) := by decide +kernel
theorem dL_law_1196 : decode cL_law 1196 = .ok (.lcmp, 1) := by decide +kernel
theorem dL_law_1197 : decode cL_law 1197 = .ok (.ifCond .eq 5, 3) := by decide +kernel
theorem dL_law_1200 : decode cL_law 1200 = .ok (.iconst 0, 1) := by decide +kernel
theorem dL_law_1201 : decode cL_law 1201 = .ok (.ireturn, 1) := by decide +kernel
theorem dL_law_1202 : decode cL_law 1202 = .ok (.goto 151, 3) := by decide +kernel
theorem dL_law_1205 : decode cL_law 1205 = .ok (.aload_n 1, 1) := by decide +kernel
theorem dL_law_1206 : decode cL_law 1206 = .ok (.aload_n 0, 1) := by decide +kernel
theorem dL_law_1207 : decode cL_law 1207 = .ok (.iload 4, 2) := by decide +kernel
theorem dL_law_1209 : decode cL_law 1209 = .ok (.iconst 1, 1) := by decide +kernel
theorem dL_law_1210 : decode cL_law 1210 = .ok (.iadd, 1) := by decide +kernel
theorem dL_law_1211 : decode cL_law 1211 = .ok (.iaload, 1) := by decide +kernel
theorem dL_law_1212 : decode cL_law 1212 = .ok (.aload_n 0, 1) := by decide +kernel
theorem dL_law_1213 : decode cL_law 1213 = .ok (.iload 4, 2) := by decide +kernel
theorem dL_law_1215 : decode cL_law 1215 = .ok (.iconst 2, 1) := by decide +kernel
theorem dL_law_1216 : decode cL_law 1216 = .ok (.iadd, 1) := by decide +kernel
theorem dL_law_1217 : decode cL_law 1217 = .ok (.iaload, 1) := by decide +kernel
theorem dL_law_1218 : decode cL_law 1218 = .ok (.aload_n 0, 1) := by decide +kernel
theorem dL_law_1219 : decode cL_law 1219 = .ok (.iload 4, 2) := by decide +kernel
theorem dL_law_1221 : decode cL_law 1221 = .ok (.iconst 3, 1) := by decide +kernel
theorem dL_law_1222 : decode cL_law 1222 = .ok (.iadd, 1) := by decide +kernel
theorem dL_law_1223 : decode cL_law 1223 = .ok (.iaload, 1) := by decide +kernel
theorem dL_law_1224 : decode cL_law 1224 = .ok (.aload_n 0, 1) := by decide +kernel
theorem dL_law_1225 : decode cL_law 1225 = .ok (.iload 4, 2) := by decide +kernel
theorem dL_law_1227 : decode cL_law 1227 = .ok (.iconst 4, 1) := by decide +kernel
theorem dL_law_1228 : decode cL_law 1228 = .ok (.iadd, 1) := by decide +kernel
theorem dL_law_1229 : decode cL_law 1229 = .ok (.iaload, 1) := by decide +kernel
theorem dL_law_1230 : decode cL_law 1230 = .ok (.aload_n 3, 1) := by decide +kernel
theorem dL_law_1231 : decode cL_law 1231 = .ok (.invokestatic 134, 3) := by decide +kernel
theorem dL_law_1234 : decode cL_law 1234 = .ok (.istore 5, 2) := by decide +kernel
theorem dL_law_1236 : decode cL_law 1236 = .ok (.aload_n 2, 1) := by decide +kernel
theorem dL_law_1237 : decode cL_law 1237 = .ok (.aload_n 0, 1) := by decide +kernel
theorem dL_law_1238 : decode cL_law 1238 = .ok (.iload 4, 2) := by decide +kernel
theorem dL_law_1240 : decode cL_law 1240 = .ok (.iconst 1, 1) := by decide +kernel
theorem dL_law_1241 : decode cL_law 1241 = .ok (.iadd, 1) := by decide +kernel
theorem dL_law_1242 : decode cL_law 1242 = .ok (.iaload, 1) := by decide +kernel
theorem dL_law_1243 : decode cL_law 1243 = .ok (.aload_n 0, 1) := by decide +kernel
theorem dL_law_1244 : decode cL_law 1244 = .ok (.iload 4, 2) := by decide +kernel
theorem dL_law_1246 : decode cL_law 1246 = .ok (.iconst 2, 1) := by decide +kernel
theorem dL_law_1247 : decode cL_law 1247 = .ok (.iadd, 1) := by decide +kernel
theorem dL_law_1248 : decode cL_law 1248 = .ok (.iaload, 1) := by decide +kernel
theorem dL_law_1249 : decode cL_law 1249 = .ok (.aload_n 0, 1) := by decide +kernel
theorem dL_law_1250 : decode cL_law 1250 = .ok (.iload 4, 2) := by decide +kernel
theorem dL_law_1252 : decode cL_law 1252 = .ok (.iconst 3, 1) := by decide +kernel
theorem dL_law_1253 : decode cL_law 1253 = .ok (.iadd, 1) := by decide +kernel
theorem dL_law_1254 : decode cL_law 1254 = .ok (.iaload, 1) := by decide +kernel
theorem dL_law_1255 : decode cL_law 1255 = .ok (.aload_n 0, 1) := by decide +kernel
theorem dL_law_1256 : decode cL_law 1256 = .ok (.iload 4, 2) := by decide +kernel
theorem dL_law_1258 : decode cL_law 1258 = .ok (.iconst 4, 1) := by decide +kernel
theorem dL_law_1259 : decode cL_law 1259 = .ok (.iadd, 1) := by decide +kernel
theorem dL_law_1260 : decode cL_law 1260 = .ok (.iaload, 1) := by decide +kernel
theorem dL_law_1261 : decode cL_law 1261 = .ok (.invokevirtual 136, 3) := by decide +kernel
theorem dL_law_1264 : decode cL_law 1264 = .ok (.istore 6, 2) := by decide +kernel
theorem dL_law_1266 : decode cL_law 1266 = .ok (.aload_n 2, 1) := by decide +kernel
theorem dL_law_1267 : decode cL_law 1267 = .ok (.invokevirtual 80, 3) := by decide +kernel
theorem dL_law_1270 : decode cL_law 1270 = .ok (.iload 5, 2) := by decide +kernel
theorem dL_law_1272 : decode cL_law 1272 = .ok (.if_icmp .eq 5, 3) := by decide +kernel
theorem dL_law_1275 : decode cL_law 1275 = .ok (.iconst 0, 1) := by decide +kernel
theorem dL_law_1276 : decode cL_law 1276 = .ok (.ireturn, 1) := by decide +kernel
theorem dL_law_1277 : decode cL_law 1277 = .ok (.iload 5, 2) := by decide +kernel
theorem dL_law_1279 : decode cL_law 1279 = .ok (.ifCond .ne 15, 3) := by decide +kernel
theorem dL_law_1282 : decode cL_law 1282 = .ok (.aload_n 3, 1) := by decide +kernel
theorem dL_law_1283 : decode cL_law 1283 = .ok (.iconst 0, 1) := by decide +kernel
theorem dL_law_1284 : decode cL_law 1284 = .ok (.laload, 1) := by decide +kernel
theorem dL_law_1285 : decode cL_law 1285 = .ok (.iload 6, 2) := by decide +kernel
theorem dL_law_1287 : decode cL_law 1287 = .ok (.i2l, 1) := by decide +kernel
theorem dL_law_1288 : decode cL_law 1288 = .ok (.lcmp, 1) := by decide +kernel
theorem dL_law_1289 : decode cL_law 1289 = .ok (.ifCond .eq 5, 3) := by decide +kernel
theorem dL_law_1292 : decode cL_law 1292 = .ok (.iconst 0, 1) := by decide +kernel
theorem dL_law_1293 : decode cL_law 1293 = .ok (.ireturn, 1) := by decide +kernel
theorem dL_law_1294 : decode cL_law 1294 = .ok (.goto 59, 3) := by decide +kernel
theorem dL_law_1297 : decode cL_law 1297 = .ok (.aload_n 1, 1) := by decide +kernel
theorem dL_law_1298 : decode cL_law 1298 = .ok (.aload_n 0, 1) := by decide +kernel
theorem dL_law_1299 : decode cL_law 1299 = .ok (.iload 4, 2) := by decide +kernel
theorem dL_law_1301 : decode cL_law 1301 = .ok (.iconst 1, 1) := by decide +kernel
theorem dL_law_1302 : decode cL_law 1302 = .ok (.iadd, 1) := by decide +kernel
theorem dL_law_1303 : decode cL_law 1303 = .ok (.iaload, 1) := by decide +kernel
theorem dL_law_1304 : decode cL_law 1304 = .ok (.aload_n 3, 1) := by decide +kernel
theorem dL_law_1305 : decode cL_law 1305 = .ok (.invokestatic 137, 3) := by decide +kernel
theorem dL_law_1308 : decode cL_law 1308 = .ok (.istore 5, 2) := by decide +kernel
theorem dL_law_1310 : decode cL_law 1310 = .ok (.aload_n 2, 1) := by decide +kernel
theorem dL_law_1311 : decode cL_law 1311 = .ok (.aload_n 0, 1) := by decide +kernel
theorem dL_law_1312 : decode cL_law 1312 = .ok (.iload 4, 2) := by decide +kernel
theorem dL_law_1314 : decode cL_law 1314 = .ok (.iconst 1, 1) := by decide +kernel
theorem dL_law_1315 : decode cL_law 1315 = .ok (.iadd, 1) := by decide +kernel
theorem dL_law_1316 : decode cL_law 1316 = .ok (.iaload, 1) := by decide +kernel
theorem dL_law_1317 : decode cL_law 1317 = .ok (.invokevirtual 139, 3) := by decide +kernel
theorem dL_law_1320 : decode cL_law 1320 = .ok (.istore 6, 2) := by decide +kernel
theorem dL_law_1322 : decode cL_law 1322 = .ok (.aload_n 2, 1) := by decide +kernel
theorem dL_law_1323 : decode cL_law 1323 = .ok (.invokevirtual 80, 3) := by decide +kernel
theorem dL_law_1326 : decode cL_law 1326 = .ok (.iload 5, 2) := by decide +kernel
theorem dL_law_1328 : decode cL_law 1328 = .ok (.if_icmp .eq 5, 3) := by decide +kernel
theorem dL_law_1331 : decode cL_law 1331 = .ok (.iconst 0, 1) := by decide +kernel
theorem dL_law_1332 : decode cL_law 1332 = .ok (.ireturn, 1) := by decide +kernel
theorem dL_law_1333 : decode cL_law 1333 = .ok (.iload 5, 2) := by decide +kernel
theorem dL_law_1335 : decode cL_law 1335 = .ok (.ifCond .ne 15, 3) := by decide +kernel
theorem dL_law_1338 : decode cL_law 1338 = .ok (.aload_n 3, 1) := by decide +kernel
theorem dL_law_1339 : decode cL_law 1339 = .ok (.iconst 0, 1) := by decide +kernel
theorem dL_law_1340 : decode cL_law 1340 = .ok (.laload, 1) := by decide +kernel
theorem dL_law_1341 : decode cL_law 1341 = .ok (.iload 6, 2) := by decide +kernel
theorem dL_law_1343 : decode cL_law 1343 = .ok (.i2l, 1) := by decide +kernel
theorem dL_law_1344 : decode cL_law 1344 = .ok (.lcmp, 1) := by decide +kernel
theorem dL_law_1345 : decode cL_law 1345 = .ok (.ifCond .eq 5, 3) := by decide +kernel
theorem dL_law_1348 : decode cL_law 1348 = .ok (.iconst 0, 1) := by decide +kernel
theorem dL_law_1349 : decode cL_law 1349 = .ok (.ireturn, 1) := by decide +kernel
theorem dL_law_1350 : decode cL_law 1350 = .ok (.goto 3, 3) := by decide +kernel
theorem dL_law_1353 : decode cL_law 1353 = .ok (.iinc 4 5, 3) := by decide +kernel
theorem dL_law_1356 : decode cL_law 1356 = .ok (.goto (-1333), 3) := by decide +kernel
theorem dL_law_1359 : decode cL_law 1359 = .ok (.iconst 1, 1) := by decide +kernel
theorem dL_law_1360 : decode cL_law 1360 = .ok (.ireturn, 1) := by decide +kernel
end
section
/-! ===== the memory of the class, the reference and the law as one map ===== -/
/-- what a cell holds: a row of ints or flags (kind, length, values); a row of references; a row of longs; an object (number of its class in vwCl, fields); ArrayList's static empty row; the script -/
abbrev zE : Type := (Nat × Nat × (Nat → Int32)) ⊕ (Nat × (Nat → Option Nat)) ⊕ (Nat × (Nat → Int64)) ⊕ (Nat × List Value) ⊕ Unit ⊕ (Nat × (Nat → Int32))
abbrev zM : Type := Nat → Option zE
abbrev zI (t n : Nat) (f : Nat → Int32) : zE := Sum.inl (t, n, f)
abbrev zA (n : Nat) (f : Nat → Option Nat) : zE := Sum.inr (Sum.inl (n, f))
abbrev zJ (n : Nat) (f : Nat → Int64) : zE := Sum.inr (Sum.inr (Sum.inl (n, f)))
abbrev zO (ci : Nat) (fs : List Value) : zE := Sum.inr (Sum.inr (Sum.inr (Sum.inl (ci, fs))))
abbrev zN : zE := Sum.inr (Sum.inr (Sum.inr (Sum.inr (Sum.inl ()))))
abbrev zS (n : Nat) (f : Nat → Int32) : zE := Sum.inr (Sum.inr (Sum.inr (Sum.inr (Sum.inr (n, f)))))
def zUp (M : zM) (a : Nat) (e : zE) : zM := fun q => if q = a then some e else M q
theorem zUp_same (M : zM) (a : Nat) (e : zE) : zUp M a e a = some e := if_pos rfl
theorem zUp_ne (M : zM) {a q : Nat} (e : zE) (h : q ≠ a) : zUp M a e q = M q := if_neg h
/-- the state at the law's start, the classes' numbers and places, the rows' classes -/
abbrev zX : Type := State × va_G × (Nat → ClassId)
def zBase (X : zX) : Nat → Prop := fun q => X.1.heap.size ≤ q
def zTys (c : Nat → ClassId) : List (ClassId × FieldType) := [(c 0, .int), (c 1, .boolean), (c 2, .object "java/lang/Object"), (c 3, .long)]
def zAt (X : zX) (a : Nat) (e : zE) (H : Heap) : Prop := match e with
  | .inl (t, n, f) => (t < 2 ∧ zBase X a) ∧ H[a]? = some (vp_cell (X.2.2 t) (n, .inl f))
  | .inr (.inl (n, f)) => zBase X a ∧ H[a]? = some (vp_cell (X.2.2 2) (n, .inr (.inr (.inr (.inr f)))))
  | .inr (.inr (.inl (n, f))) => zBase X a ∧ H[a]? = some (vp_cell (X.2.2 3) (n, .inr (.inl f)))
  | .inr (.inr (.inr (.inl (k, fs)))) => zBase X a ∧ va_at X.2.1 vwCl (a, .inr (k, fs)) H
  | .inr (.inr (.inr (.inr (.inl ())))) => va_T (.object "java/lang/Object") a 0 (fun _ => .null) (zBase X) X.1 X.1.heap ∧ va_Z "java/util/ArrayList" "DEFAULTCAPACITY_EMPTY_ELEMENTDATA" "[Ljava/lang/Object;" (.ref a) (zBase X) X.1 X.1.heap
  | .inr (.inr (.inr (.inr (.inr (n, f))))) => va_X a n f X.1 X.1.heap ∧ ¬ zBase X a
def zRep (X : zX) (M : zM) (H : Heap) : Prop := X.1.heap.size ≤ H.size ∧ (∀ q : Nat, q < X.1.heap.size → H[q]? = X.1.heap[q]?) ∧ (∀ (a : Nat) (e : zE), M a = some e → zAt X a e H) ∧ ∃ a, M a = some zN ∧ ∀ b, M b = some zN → b = a
def zWk (X : zX) (s : State) (M : zM) (H : Heap) (locs : List Loc) : Prop := va_S (zBase X) s.heap H locs ∧ zRep X M H
theorem zAt.kept {X : zX} {a : Nat} {e : zE} {H H1 : Heap} (h : zAt X a e H) (hq : H1[a]? = H[a]?) : zAt X a e H1 := by
  obtain ⟨t, n, f⟩ | ⟨n, f⟩ | ⟨n, f⟩ | ⟨k, fs⟩ | u | ⟨n, f⟩ := e
  · exact ⟨h.1, hq.trans h.2⟩
  · exact ⟨h.1, hq.trans h.2⟩
  · exact ⟨h.1, hq.trans h.2⟩
  · exact ⟨h.1, h.2.kept hq⟩
  · exact h
  · exact h
theorem zAt.lt {X : zX} {a : Nat} {e : zE} {H : Heap} (h : zAt X a e H) (hs : X.1.heap.size ≤ H.size) : a < H.size := by
  obtain ⟨t, n, f⟩ | ⟨n, f⟩ | ⟨n, f⟩ | ⟨k, fs⟩ | u | ⟨n, f⟩ := e
  · exact (Array.getElem?_eq_some_iff.mp h.2).1
  · exact (Array.getElem?_eq_some_iff.mp h.2).1
  · exact (Array.getElem?_eq_some_iff.mp h.2).1
  · exact va_at.lt h.2
  · obtain ⟨⟨cell, h1, -⟩, -⟩ := h
    exact Nat.lt_of_lt_of_le (Array.getElem?_eq_some_iff.mp h1).1 hs
  · obtain ⟨⟨cell, h1, -⟩, -⟩ := h
    exact Nat.lt_of_lt_of_le (Array.getElem?_eq_some_iff.mp h1).1 hs
theorem zRep.lt {X : zX} {M : zM} {H : Heap} (h : zRep X M H) {a : Nat} {e : zE} (ha : M a = some e) : a < H.size := (h.2.2.1 a e ha).lt h.1
theorem zRep.new {X : zX} {M : zM} {H : Heap} (h : zRep X M H) {q : Nat} (hq : H.size ≤ q) : M q = none := by
  cases hM : M q with
  | none => rfl
  | some e => exact absurd (h.lt hM) (Nat.not_lt.mpr hq)
theorem zRep.up {X : zX} {M : zM} {H H1 : Heap} (h : zRep X M H) {a : Nat} {e0 e : zE} (ha : M a = some e0) (h0 : e0 ≠ zN) (h1 : e ≠ zN) (hb : zBase X a) (z : H1.size = H.size) (o : ∀ q : Nat, q ≠ a → H1[q]? = H[q]?) (hat : zAt X a e H1) : zRep X (zUp M a e) H1 := by
  obtain ⟨k1, k2, k3, k, k4, k5⟩ := h
  refine ⟨by rw [z]; exact k1, fun q hq => ?_, fun q e' hq => ?_, k, ?_, fun b hb' => ?_⟩
  · have hne : q ≠ a := fun e => by subst e; exact absurd hq (Nat.not_lt.mpr hb)
    rw [o q hne]; exact k2 q hq
  · by_cases hqa : q = a
    · subst hqa
      rw [zUp_same] at hq
      cases hq
      exact hat
    · rw [zUp_ne M e hqa] at hq
      exact (k3 q e' hq).kept (o q hqa)
  · have hka : k ≠ a := fun e => by subst e; rw [ha] at k4; exact h0 (Option.some.inj k4)
    rw [zUp_ne M e hka]; exact k4
  · by_cases hba : b = a
    · subst hba
      rw [zUp_same] at hb'
      exact absurd (Option.some.inj hb') h1
    · rw [zUp_ne M e hba] at hb'
      exact k5 b hb'
theorem zRep.push {X : zX} {M : zM} {H H1 : Heap} (h : zRep X M H) {e : zE} (h1 : e ≠ zN) (z : H1.size = H.size + 1) (o : ∀ q : Nat, q < H.size → H1[q]? = H[q]?) (hat : zAt X H.size e H1) : zRep X (zUp M H.size e) H1 := by
  have hn := h.new (Nat.le_refl H.size)
  obtain ⟨k1, k2, k3, k, k4, k5⟩ := id h
  refine ⟨by omega, fun q hq => ?_, fun q e' hq => ?_, k, ?_, fun b hb' => ?_⟩
  · rw [o q (by omega)]; exact k2 q hq
  · by_cases hqa : q = H.size
    · subst hqa
      rw [zUp_same] at hq
      cases hq
      exact hat
    · rw [zUp_ne M e hqa] at hq
      exact (k3 q e' hq).kept (o q (h.lt hq))
  · have hka : k ≠ H.size := fun e => by subst e; rw [hn] at k4; cases k4
    rw [zUp_ne M e hka]; exact k4
  · by_cases hba : b = H.size
    · subst hba
      rw [zUp_same] at hb'
      exact absurd (Option.some.inj hb') h1
    · rw [zUp_ne M e hba] at hb'
      exact k5 b hb'
theorem zWk.put {X : zX} {s : State} {M : zM} {H H1 : Heap} {locs : List Loc} (I : zWk X s M H locs) {a k : Nat} {e0 e : zE} (ha : M a = some e0) (h0 : e0 ≠ zN) (h1 : e ≠ zN) (hb : zBase X a) (z : H1.size = H.size) (o : ∀ q : Nat, q ≠ a → H1[q]? = H[q]?) (hat : zAt X a e H1) : zWk X s (zUp M a e) H1 (locs ++ [⟨a, k⟩]) :=
  ⟨I.1.put z o hb, I.2.up ha h0 h1 hb z o hat⟩
theorem zWk.new {X : zX} {s : State} {M : zM} {H H1 : Heap} {locs : List Loc} (I : zWk X s M H locs) {e : zE} (h1 : e ≠ zN) (z : H1.size = H.size + 1) (o : ∀ q : Nat, q < H.size → H1[q]? = H[q]?) (hat : zAt X H.size e H1) : zWk X s (zUp M H.size e) H1 locs :=
  ⟨⟨Nat.le_trans I.1.1 (by omega), fun q h1 h2 => (o q (Nat.lt_of_lt_of_le h1 I.1.1)).trans (I.1.2.1 q h1 h2), I.1.2.2⟩, I.2.push h1 z o hat⟩
/-! words -/
def zgood (w : Cond) : Bool := goodWord w || (w.onTables && w.keepsFace)
def zG : List Cond := lw_tbl.filter zgood
theorem z_g {w : Cond} (i : Nat) (h : lw_tbl[i]? = some w) (hg : zgood w = true) : w ∈ zG := List.mem_filter.mpr ⟨List.mem_of_getElem? h, hg⟩
theorem z_words {X : zX} {s : State} {A : Array Value} (hW : X.1.WarmedH s.vm) (h : ∀ w ∈ lw_tbl, w.before A X.1 = true) (args : Array Value) : ∀ w ∈ zG, w.before args s = true := by
  intro w hw
  obtain ⟨h1, h2⟩ := List.mem_filter.mp hw
  simp only [zgood, Bool.or_eq_true] at h2
  rcases h2 with h2 | h2
  · exact word_at hW (good_of_word h2) (h w h1)
  · simp only [Bool.and_eq_true] at h2
    exact va_tabs h2.1 (rfl : (X.1.setVm s.vm).vm = s.vm) (Cond.before_shiftedFace (State.Shifted.of_warmed hW) w h2.2 (h w h1))
/-- what is known of the launch and of the law's start -/
def zEnv (X : zX) (l : Launch) : Prop := l.stackTraces = false ∧ va_K X.2.1 vwCl (zTys X.2.2) X.1 ∧ (∃ A : Array Value, ∀ w ∈ lw_tbl, w.before A X.1 = true) ∧
  (vx_Zq Bundle.tN "UNASSIGNED_STACK" Bundle.steD (zBase X) X.1 X.1.heap ∧ vx_Zq Bundle.tN "SUPPRESSED_SENTINEL" Bundle.listD (zBase X) X.1 X.1.heap) ∧
  (∀ (own : String) (k : Nat) (tx : String), Cond.stringRef own k tx ∈ lw_tbl → ∃ a, vk_R own k tx a X.1) ∧ (∃ mi, va_Mi "[Ljava/lang/Object;" mi X.1) ∧ va_AO "java/lang/Object" X.1
/-- a method's walk: its own code, its class, the words, the tables -/
def zCx (X : zX) (p : Program) (l : Launch) (s : State) (m : MethodId) (args : Array Value) (meth : Method) (c : Code) (own nm : String) (cc : ByteArray) (nL : Nat) : Prop :=
  CallFix p m c cc nL s args zG own ∧ meth.locks = false ∧ meth.name = nm ∧ X.1.WarmedH s.vm ∧ zEnv X l ∧ X.1.heap.size ≤ s.heap.size ∧ ∀ q : Nat, q < X.1.heap.size → s.heap[q]? = X.1.heap[q]?
theorem zCx.K {X : zX} {p : Program} {l : Launch} {s : State} {m : MethodId} {args : Array Value} {meth : Method} {c : Code} {own nm : String} {cc : ByteArray} {nL : Nat} (C : zCx X p l s m args meth c own nm cc nL) : va_K X.2.1 vwCl (zTys X.2.2) s := C.2.2.2.2.1.2.1.moved C.2.2.2.1.alike
theorem z_one {D : va_G} {cl : List vw_C} {q : Nat × va_E} {H : Heap} (h : va_at D cl q H) : va_P D cl [q] H := by
  intro k x hx
  cases k with
  | zero => rw [List.getElem?_cons_zero] at hx; cases hx; exact h
  | succ k => simp at hx
/-! contracts -/
def zXn (k : Nat) : String := match k with
  | 1 => "java/lang/IllegalArgumentException"
  | 2 => "java/lang/IndexOutOfBoundsException"
  | _ => "java/lang/IllegalStateException"
def zPc (X : zX) (M : zM) (as : List Value) : Array Value → State → Prop := va_Pc as (fun U => X.1.WarmedH U.vm ∧ zRep X M U.heap)
def zQc (X : zX) (P : Option Value → zM → Prop) : Array Value → State → Outcome → State → Prop := fun _ st o t => ∃ v M', o = .returned v ∧ P v M' ∧ zRep X M' t.heap ∧ st.heap.size ≤ t.heap.size
def zXc (X : zX) (PX : Nat → zM → Prop) : String → State → State → Prop := fun E st t => ∃ k M', E = zXn k ∧ PX k M' ∧ zRep X M' t.heap ∧ st.heap.size ≤ t.heap.size
abbrev zRm (fr lo mc ms : Nat) : Room := { frames := fr, cells := mc, slots := ms, locals := lo }
def zCT (X : zX) (l : Launch) (y : MethodName) (b : ByteArray) (n : Nat) (r : Option FieldType) (fr lo mc ms : Nat) (M : zM) (as : List Value) (P : Option Value → zM → Prop) (PX : Nat → zM → Prop) : Prop :=
  vx_Met l y [.code y b n r] (zRm fr lo mc ms) (zPc X M as) (zQc X P) (zXc X PX) mc ms (zBase X)
def zPi (K : Int32 → zM → Prop) : Option Value → zM → Prop := fun v M => ∃ r, v = some (.int r) ∧ K r M
def zPz (K : Int32 → zM → Prop) : Option Value → zM → Prop := fun v M => ∃ r, v = some (.int r) ∧ (r = 0 ∨ r = 1) ∧ K r M
def zPo (K : Option Nat → zM → Prop) : Option Value → zM → Prop := fun v M => ∃ r, v = some (va_rf r) ∧ K r M
def zPv (K : zM → Prop) : Option Value → zM → Prop := fun v M => v = none ∧ K M
theorem zPc_blind {X : zX} {M : zM} {as : List Value} : FrameBlind (zPc X M as) := fun a U g mk q => q
/-- the entry of a method's walk -/
theorem z_entry {X : zX} {l : Launch} (E : zEnv X l) {y : MethodName} {b : ByteArray} {n : Nat} {r : Option FieldType} {fr lo mc ms : Nat} {M : zM} {as : List Value} {P : Option Value → zM → Prop} {PX : Nat → zM → Prop} (hy : plainName y.cls = true)
    (body : ∀ (p : Program) (e : Env) (s : State) (m : MethodId) (args : Array Value) (below : List Frame) (meth : Method) (c : Code), zCx X p l s m args meth c y.cls y.name b n → meth.sig.returnType = r → (∀ x ∈ c.exceptionTable.toList, False) → zWk X s M s.heap [] →
      W p l e (zRm fr lo mc ms) s m args below meth c s.heap [] 0 0 (vx_MQ below (zQc X P) (zXc X PX) args s mc ms (zBase X)) (entryFrame m as.toArray n)) : zCT X l y b n r fr lo mc ms M as P PX := by
  refine vx_ofW (cc := b) (maxL := n) (ret := r) hy rfl ?_
  intro p e s m args below meth c s₁ B hml htab hP
  obtain ⟨rfl, hW, hR⟩ := hP
  obtain ⟨A, hA⟩ := E.2.2.1
  exact body p e s m _ below meth c ⟨⟨B.exec, B.bytes, hml, findClass_of_methodNamed B.named, z_words hW hA _⟩, B.notSynchronized, (name_of_methodNamed B.named B.method).1, hW, E, hR.1, hR.2.1⟩ B.returns htab ⟨va_S.rf, hR⟩
end
section
/-! ===== rows over that memory ===== -/
/-- a field's certificate: the pool entry idx of the class own is field k of the class ci -/
def zFl (own : String) (idx ci k : Nat) (Cn : String) (T : u_T) (N : Nat) (ty : Nat → FieldType) : Prop :=
  vwCl[ci]? = some (Cn, T, N) ∧ (∀ w ∈ u_ws Cn T N, w ∈ zG) ∧ (∀ k, k < N → parseFieldDescriptor (T k).2.2.1 = some (ty k)) ∧ (∀ a, a < N → ∀ b, b < N → a ≠ b → (T a).2.1 ≠ (T b).2.1) ∧ k < N ∧
  ∃ ref, Cond.fieldLink own idx ref (T k).2.1 (T k).2.2.1 ∈ zG ∧ (ref = (T k).1 ∨ Cond.sameField ref (T k).1 (T k).2.1 (T k).2.2.1 ∈ zG)
def zGi (M : zM) (a ci k : Nat) (K : Int32 → Prop) : Prop := ∃ fs v, M a = some (zO ci fs) ∧ fs[k]? = some (.int v) ∧ K v
def zGr (M : zM) (a ci k : Nat) (K : Nat → Prop) : Prop := ∃ fs v, M a = some (zO ci fs) ∧ fs[k]? = some (.ref v) ∧ K v
def zGo (M : zM) (a ci k : Nat) (K : Option Nat → Prop) : Prop := ∃ fs v, M a = some (zO ci fs) ∧ fs[k]? = some (va_rf v) ∧ K v
def zPu (M : zM) (a ci k : Nat) (v : Value) (K : zM → Prop) : Prop := ∃ fs, M a = some (zO ci fs) ∧ k < fs.length ∧ K (zUp M a (zO ci (fs.set k v)))
def zAi (M : zM) (t a : Nat) (i : Int32) (K : Int32 → Prop) : Prop := ∃ n f, M a = some (zI t n f) ∧ vp_in i n ∧ K (f i.toNatClampNeg)
def zAo (M : zM) (a : Nat) (i : Int32) (K : Option Nat → Prop) : Prop := ∃ n f, M a = some (zA n f) ∧ vp_in i n ∧ K (f i.toNatClampNeg)
def zAl (M : zM) (a : Nat) (i : Int32) (K : Int64 → Prop) : Prop := ∃ n f, M a = some (zJ n f) ∧ vp_in i n ∧ K (f i.toNatClampNeg)
def zAs (M : zM) (a : Nat) (i : Int32) (K : Int32 → Prop) : Prop := ∃ n f, M a = some (zS n f) ∧ vp_in i n ∧ K (f i.toNatClampNeg)
def zSi (M : zM) (a : Nat) (i x : Int32) (K : zM → Prop) : Prop := ∃ n f, M a = some (zI 0 n f) ∧ vp_in i n ∧ K (zUp M a (zI 0 n (upd f i.toNatClampNeg x)))
def zSz (M : zM) (a : Nat) (i x : Int32) (K : zM → Prop) : Prop := ∃ n f, M a = some (zI 1 n f) ∧ vp_in i n ∧ (x = 0 ∨ x = 1) ∧ K (zUp M a (zI 1 n (upd f i.toNatClampNeg x)))
def zSr (M : zM) (a : Nat) (i : Int32) (v : Nat) (K : zM → Prop) : Prop := ∃ n f ci fs, M a = some (zA n f) ∧ M v = some (zO ci fs) ∧ vp_in i n ∧ K (zUp M a (zA n (va_up f i.toNatClampNeg (some v))))
def zSn (M : zM) (a : Nat) (i : Int32) (K : zM → Prop) : Prop := ∃ n f, M a = some (zA n f) ∧ vp_in i n ∧ K (zUp M a (zA n (va_up f i.toNatClampNeg none)))
def zSl (M : zM) (a : Nat) (i : Int32) (x : Int64) (K : zM → Prop) : Prop := ∃ n f, M a = some (zJ n f) ∧ vp_in i n ∧ K (zUp M a (zJ n (vp_updL f i.toNatClampNeg x)))
def zLe (e : zE) : Option Nat := match e with
  | .inl (_, n, _) => some n
  | .inr (.inl (n, _)) => some n
  | .inr (.inr (.inl (n, _))) => some n
  | .inr (.inr (.inr (.inl _))) => none
  | .inr (.inr (.inr (.inr (.inl ())))) => some 0
  | .inr (.inr (.inr (.inr (.inr (n, _))))) => some n
def zLn (M : zM) (a : Nat) (K : Int32 → Prop) : Prop := ∃ e n, M a = some e ∧ zLe e = some n ∧ K (Int32.ofNat n)
def zNw (M : zM) (ci : Nat) (fs : List Value) (K : Nat → zM → Prop) : Prop := ∀ q, M q = none → K q (zUp M q (zO ci fs))
def zNi (M : zM) (t : Nat) (n : Int32) (mx : Nat) (K : Nat → zM → Prop) : Prop := ¬ n < 0 ∧ n.toNatClampNeg ≤ mx ∧ ∀ q, M q = none → K q (zUp M q (zI t n.toNatClampNeg (fun _ => 0)))
def zNl (M : zM) (n : Int32) (mx : Nat) (K : Nat → zM → Prop) : Prop := ¬ n < 0 ∧ n.toNatClampNeg ≤ mx ∧ ∀ q, M q = none → K q (zUp M q (zJ n.toNatClampNeg (fun _ => 0)))
def zNo (M : zM) (n : Int32) (mx : Nat) (K : Nat → zM → Prop) : Prop := ¬ n < 0 ∧ n.toNatClampNeg ≤ mx ∧ ∀ q, M q = none → K q (zUp M q (zA n.toNatClampNeg (fun _ => none)))
def zGs (M : zM) (K : Nat → Prop) : Prop := ∀ q, M q = some zN → (∀ b, M b = some zN → b = q) → K q
theorem zI_ne {t n : Nat} {f : Nat → Int32} : zI t n f ≠ zN := fun h => by cases h
theorem zA_ne {n : Nat} {f : Nat → Option Nat} : zA n f ≠ zN := fun h => by cases h
theorem zJ_ne {n : Nat} {f : Nat → Int64} : zJ n f ≠ zN := fun h => by cases h
theorem zO_ne {k : Nat} {fs : List Value} : zO k fs ≠ zN := fun h => by cases h
section ZR
variable {X : zX} {p : Program} {l : Launch} {e : Env} {R : Room} {s : State} {m : MethodId} {args : Array Value} {below : List Frame} {meth : Method} {c : Code} {H : Heap} {locs : List Loc} {cells slots : Nat} {Q : State → Prop}
variable {cc : ByteArray} {pc nL idx : Nat} {ls : Array Slot} {rest : List Value} {own nm : String} {M : zM} {a ci k : Nat} {Cn : String} {T : u_T} {N : Nat} {ty : Nat → FieldType}
theorem z_get (C : zCx X p l s m args meth c own nm cc nL) (I : zWk X s M H locs) (F : zFl own idx ci k Cn T N ty) {fs : List Value} {v : Value} (ha : M a = some (zO ci fs)) (hv : fs[k]? = some v) (d : decode cc pc = .ok (.getfield idx, 3))
    (kk : W p l e R s m args below meth c H locs cells slots Q (F0 m (pc + 3) ls (v :: rest))) : W p l e R s m args below meth c H locs cells slots Q (F0 m pc ls (.ref a :: rest)) := by
  obtain ⟨⟨hx, hb, -, hown, hts⟩, -⟩ := id C
  obtain ⟨hc, hin, hty, hnm, hk, ref, hl, hs⟩ := F
  refine va_get hx hb hts hin hown C.K (z_one (I.2.2.2.1 a _ ha).2) 0 rfl hc k hk (hts _ hl) ?_ hv d kk
  rcases hs with rfl | hs
  · exact fun _ h => h
  · exact fun x h => u_same (hts _ hs) x h
theorem z_geti (C : zCx X p l s m args meth c own nm cc nL) (I : zWk X s M H locs) (F : zFl own idx ci k Cn T N ty) {K : Int32 → Prop} (hw : zGi M a ci k K) (d : decode cc pc = .ok (.getfield idx, 3))
    (kk : ∀ v, K v → W p l e R s m args below meth c H locs cells slots Q (F0 m (pc + 3) ls (.int v :: rest))) : W p l e R s m args below meth c H locs cells slots Q (F0 m pc ls (.ref a :: rest)) := by
  obtain ⟨fs, v, h1, h2, h3⟩ := hw
  exact z_get C I F h1 h2 d (kk v h3)
theorem z_getr (C : zCx X p l s m args meth c own nm cc nL) (I : zWk X s M H locs) (F : zFl own idx ci k Cn T N ty) {K : Nat → Prop} (hw : zGr M a ci k K) (d : decode cc pc = .ok (.getfield idx, 3))
    (kk : ∀ v, K v → W p l e R s m args below meth c H locs cells slots Q (F0 m (pc + 3) ls (.ref v :: rest))) : W p l e R s m args below meth c H locs cells slots Q (F0 m pc ls (.ref a :: rest)) := by
  obtain ⟨fs, v, h1, h2, h3⟩ := hw
  exact z_get C I F h1 h2 d (kk v h3)
theorem z_geto (C : zCx X p l s m args meth c own nm cc nL) (I : zWk X s M H locs) (F : zFl own idx ci k Cn T N ty) {K : Option Nat → Prop} (hw : zGo M a ci k K) (d : decode cc pc = .ok (.getfield idx, 3))
    (kk : ∀ v, K v → W p l e R s m args below meth c H locs cells slots Q (F0 m (pc + 3) ls (va_rf v :: rest))) : W p l e R s m args below meth c H locs cells slots Q (F0 m pc ls (.ref a :: rest)) := by
  obtain ⟨fs, v, h1, h2, h3⟩ := hw
  exact z_get C I F h1 h2 d (kk v h3)
theorem z_put (C : zCx X p l s m args meth c own nm cc nL) (I : zWk X s M H locs) (F : zFl own idx ci k Cn T N ty) (hfin : (T k).2.2.2 = false) {v : Value} (hn : narrow (ty k) v = v) (hf : fits (ty k) v = true) {K : zM → Prop} (hw : zPu M a ci k v K) (d : decode cc pc = .ok (.putfield idx, 3))
    (kk : ∀ (M1 : zM) (H1 : Heap) (locs1 : List Loc), zWk X s M1 H1 locs1 → K M1 → W p l e R s m args below meth c H1 locs1 cells slots Q (F0 m (pc + 3) ls rest)) : W p l e R s m args below meth c H locs cells slots Q (F0 m pc ls (v :: .ref a :: rest)) := by
  obtain ⟨⟨hx, hb, -, hown, hts⟩, -⟩ := id C
  obtain ⟨hc, hin, hty, hnm, hk, ref, hl, hs⟩ := F
  obtain ⟨fs, ha, hlen, hK⟩ := hw
  have hKn := C.K
  obtain ⟨hbase, r, h1, cell, q1, q2, q3, q4⟩ := I.2.2.2.1 a _ ha
  have hr : r = (Cn, T, N) := Option.some.inj (h1.symm.trans hc)
  subst hr
  have hap := va_apart (own := own) hts hin ty hty hnm hKn hc
  obtain ⟨hS, hfc, kC, hkC, hkind⟩ := hKn.1 ci _ hc
  obtain ⟨cf, kf, fi, f, hi, hsl⟩ := hS k hk
  have hlay := hts _ (hin _ (u_in_lay hk))
  unfold u_lay at hlay
  rw [if_neg (by rw [hfin]; decide)] at hlay
  have hst := (u_facts hfc hkC (u_lays hts hin hk) hi).1
  have h6 := u_store hfc hkC hkind hlay hi (hty k hk) hn hf
  have hsame : ∀ x, s.fieldFound? (T k).1 (T k).2.1 (T k).2.2.1 = some x → s.fieldFound? ref (T k).2.1 (T k).2.2.1 = some x := by
    rcases hs with rfl | hs
    · exact fun _ h => h
    · exact fun x h => u_same (hts _ hs) x h
  refine W.putK hx hb (f := f) ⟨hown, hts _ hl, ⟨_, _, _, hsame _ hi⟩, hst⟩ (by rw [q2]; exact h6) q1 q3 (by rw [hsl]; exact k2_hasslot (q4 k hk)) rfl rfl d fun H' e1 e2 e3 => ?_
  rw [hsl] at e1
  exact kk _ _ _ (I.put (e := zO ci (fs.set k v)) ha zO_ne zO_ne hbase e2 e3 ⟨hbase, _, hc, t_OB.to (V := updV (vp_V fs) k v) ⟨_, e1, q2, q3, t_set q4 hap hk v⟩ (fun j _ => vp_updV_set hlen v j)⟩) hK
theorem z_putF (C : zCx X p l s m args meth c own nm cc nL) (I : zWk X s M H locs) (F : zFl own idx ci k Cn T N ty) (hfin : (T k).2.2.2 = true) (hnmi : nm = "<init>") (hdecl : (T k).1 = own) {v : Value} (hn : narrow (ty k) v = v) (hf : fits (ty k) v = true) {K : zM → Prop} (hw : zPu M a ci k v K) (d : decode cc pc = .ok (.putfield idx, 3))
    (kk : ∀ (M1 : zM) (H1 : Heap) (locs1 : List Loc), zWk X s M1 H1 locs1 → K M1 → W p l e R s m args below meth c H1 locs1 cells slots Q (F0 m (pc + 3) ls rest)) : W p l e R s m args below meth c H locs cells slots Q (F0 m pc ls (v :: .ref a :: rest)) := by
  obtain ⟨⟨hx, hb, -, hown, hts⟩, -, hname, -⟩ := id C
  obtain ⟨hc, hin, hty, hnm, hk, ref, hl, hs⟩ := F
  obtain ⟨fs, ha, hlen, hK⟩ := hw
  have hKn := C.K
  obtain ⟨hbase, r, h1, cell, q1, q2, q3, q4⟩ := I.2.2.2.1 a _ ha
  have hr : r = (Cn, T, N) := Option.some.inj (h1.symm.trans hc)
  subst hr
  have hap := va_apart (own := own) hts hin ty hty hnm hKn hc
  obtain ⟨hS, hfc, kC, hkC, hkind⟩ := hKn.1 ci _ hc
  obtain ⟨cf, kf, fi, f, hi, hsl⟩ := hS k hk
  have hlay := hts _ (hin _ (u_in_lay hk))
  unfold u_lay at hlay
  rw [if_pos hfin] at hlay
  have hst := (u_facts hfc hkC (u_lays hts hin hk) hi).1
  have hcf : m.cls = cf := by
    obtain ⟨_, _, c', _, _, _, -, -, hf', -, -, -, hown2, -⟩ := Cond.laysFinal_spec hlay
    have e1 : c' = cf := by have := hi.symm.trans hf'; simp at this; exact this.1.symm
    rw [hdecl] at hown2
    rw [← e1]; exact Option.some.inj (hown.symm.trans hown2)
  have h6 := u_fits hfc hkC hkind (Or.inr hlay) hi (hty k hk) hn hf
  have hsame : ∀ x, s.fieldFound? (T k).1 (T k).2.1 (T k).2.2.1 = some x → s.fieldFound? ref (T k).2.1 (T k).2.2.1 = some x := by
    rcases hs with rfl | hs
    · exact fun _ h => h
    · exact fun x h => u_same (hts _ hs) x h
  refine W.putFinK hx hb hown (hts _ hl) (hsame _ hi) hst hcf (hname.trans hnmi) (by rw [q2]; exact h6) q1 q3 (by rw [hsl]; exact k2_hasslot (q4 k hk)) rfl rfl d fun H' e1 e2 e3 => ?_
  rw [hsl] at e1
  exact kk _ _ _ (I.put (e := zO ci (fs.set k v)) ha zO_ne zO_ne hbase e2 e3 ⟨hbase, _, hc, t_OB.to (V := updV (vp_V fs) k v) ⟨_, e1, q2, q3, t_set q4 hap hk v⟩ (fun j _ => vp_updV_set hlen v j)⟩) hK
/-! rows of numbers and references -/
theorem z_iald (C : zCx X p l s m args meth c own nm cc nL) (I : zWk X s M H locs) {i : Int32} {K : Int32 → Prop} (hw : zAi M 0 a i K) (d : decode cc pc = .ok (.iaload, 1))
    (kk : ∀ v, K v → W p l e R s m args below meth c H locs cells slots Q (F0 m (pc + 1) ls (.int v :: rest))) : W p l e R s m args below meth c H locs cells slots Q (F0 m pc ls (.int i :: .ref a :: rest)) := by
  obtain ⟨n, f, ha, hin, hK⟩ := hw
  obtain ⟨-, hat⟩ := I.2.2.2.1 a _ ha
  exact va_iald C.1.1 C.1.2.1 C.K (z_one (D := X.2.1) (cl := vwCl) (q := (a, .inl (X.2.2 0, n, .inl f))) hat) 0 0 rfl rfl hin d (kk _ hK)
theorem z_zald (C : zCx X p l s m args meth c own nm cc nL) (I : zWk X s M H locs) {i : Int32} {K : Int32 → Prop} (hw : zAi M 1 a i K) (d : decode cc pc = .ok (.baload, 1))
    (kk : ∀ v, K v → W p l e R s m args below meth c H locs cells slots Q (F0 m (pc + 1) ls (.int v :: rest))) : W p l e R s m args below meth c H locs cells slots Q (F0 m pc ls (.int i :: .ref a :: rest)) := by
  obtain ⟨n, f, ha, hin, hK⟩ := hw
  obtain ⟨-, hat⟩ := I.2.2.2.1 a _ ha
  exact va_zald C.1.1 C.1.2.1 C.K (z_one (D := X.2.1) (cl := vwCl) (q := (a, .inl (X.2.2 1, n, .inl f))) hat) 0 1 rfl rfl hin d (kk _ hK)
theorem z_aald (C : zCx X p l s m args meth c own nm cc nL) (I : zWk X s M H locs) {i : Int32} {K : Option Nat → Prop} (hw : zAo M a i K) (d : decode cc pc = .ok (.aaload, 1))
    (kk : ∀ v, K v → W p l e R s m args below meth c H locs cells slots Q (F0 m (pc + 1) ls (va_rf v :: rest))) : W p l e R s m args below meth c H locs cells slots Q (F0 m pc ls (.int i :: .ref a :: rest)) := by
  obtain ⟨n, f, ha, hin, hK⟩ := hw
  obtain ⟨-, hat⟩ := I.2.2.2.1 a _ ha
  exact va_aldq C.1.1 C.1.2.1 C.K (z_one (D := X.2.1) (cl := vwCl) (q := (a, .inl (X.2.2 2, n, .inr (.inr (.inr (.inr f)))))) hat) 0 2 rfl rfl hin d (kk _ hK)
theorem z_lald (C : zCx X p l s m args meth c own nm cc nL) (I : zWk X s M H locs) {i : Int32} {K : Int64 → Prop} (hw : zAl M a i K) (d : decode cc pc = .ok (.laload, 1))
    (kk : ∀ v, K v → W p l e R s m args below meth c H locs cells slots Q (F0 m (pc + 1) ls (.long v :: rest))) : W p l e R s m args below meth c H locs cells slots Q (F0 m pc ls (.int i :: .ref a :: rest)) := by
  obtain ⟨n, f, ha, hin, hK⟩ := hw
  obtain ⟨-, hat⟩ := I.2.2.2.1 a _ ha
  exact va_lald C.1.1 C.1.2.1 C.K (z_one (D := X.2.1) (cl := vwCl) (q := (a, .inl (X.2.2 3, n, .inr (.inl f)))) hat) 0 3 rfl rfl hin d (kk _ hK)
theorem z_sald (C : zCx X p l s m args meth c own nm cc nL) (I : zWk X s M H locs) {i : Int32} {K : Int32 → Prop} (hw : zAs M a i K) (d : decode cc pc = .ok (.iaload, 1))
    (kk : ∀ v, K v → W p l e R s m args below meth c H locs cells slots Q (F0 m (pc + 1) ls (.int v :: rest))) : W p l e R s m args below meth c H locs cells slots Q (F0 m pc ls (.int i :: .ref a :: rest)) := by
  obtain ⟨n, f, ha, hin, hK⟩ := hw
  obtain ⟨⟨scr, h1, h2, h3, h4, h5⟩, hnb⟩ := I.2.2.2.1 a _ ha
  have hlt : i.toNatClampNeg < n := Nat.not_le.mp fun q => hin (Or.inr q)
  exact W.iald (v := .int (f i.toNatClampNeg)) C.1.1 C.1.2.1 (by rw [I.2.2.1 a (Nat.not_le.mp hnb)]; exact h1) (State.isArrayOf_alike C.2.2.2.1.alike h2) h3 (by rw [h4]; exact hin) (h5 _ hlt) rfl rfl d (kk _ hK)
theorem z_iast (C : zCx X p l s m args meth c own nm cc nL) (I : zWk X s M H locs) {i x : Int32} {K : zM → Prop} (hw : zSi M a i x K) (d : decode cc pc = .ok (.iastore, 1))
    (kk : ∀ (M1 : zM) (H1 : Heap) (locs1 : List Loc), zWk X s M1 H1 locs1 → K M1 → W p l e R s m args below meth c H1 locs1 cells slots Q (F0 m (pc + 1) ls rest)) : W p l e R s m args below meth c H locs cells slots Q (F0 m pc ls (.int x :: .int i :: .ref a :: rest)) := by
  obtain ⟨n, f, ha, hin, hK⟩ := hw
  obtain ⟨⟨ht, hbase⟩, hat⟩ := I.2.2.2.1 a _ ha
  refine W.iast C.1.1 C.1.2.1 hat ((C.K.2 0 _ rfl).1 n (fun j => .int (f j))) (fun q => by cases q) (by show ¬ (i < 0 ∨ (arrV _ _ _).slots.size ≤ _); rw [arrV_size]; exact hin) rfl rfl d fun H1 e z oq => ?_
  refine kk _ _ _ (I.put ha zI_ne zI_ne hbase z oq ⟨⟨ht, hbase⟩, e.trans ?_⟩) hK
  rw [vp_cell_i, vp_cell_i, arrV_store]
  congr 2
  funext q
  by_cases hq : q = i.toNatClampNeg
  · simp [updV, upd, hq]
  · simp [updV, upd, hq]
theorem z_nz {x : Int32} (h : x = 0 ∨ x = 1) : narrow .boolean (.int x) = .int x := by rcases h with rfl | rfl <;> rfl
theorem z_zast (C : zCx X p l s m args meth c own nm cc nL) (I : zWk X s M H locs) {i x : Int32} {K : zM → Prop} (hw : zSz M a i x K) (d : decode cc pc = .ok (.bastore, 1))
    (kk : ∀ (M1 : zM) (H1 : Heap) (locs1 : List Loc), zWk X s M1 H1 locs1 → K M1 → W p l e R s m args below meth c H1 locs1 cells slots Q (F0 m (pc + 1) ls rest)) : W p l e R s m args below meth c H locs cells slots Q (F0 m pc ls (.int x :: .int i :: .ref a :: rest)) := by
  obtain ⟨n, f, ha, hin, h01, hK⟩ := hw
  obtain ⟨⟨ht, hbase⟩, hat⟩ := I.2.2.2.1 a _ ha
  refine W.zast C.1.1 C.1.2.1 hat ((C.K.2 1 _ rfl).1 n (fun j => .int (f j))) (fun q => by cases q) (by show ¬ (i < 0 ∨ (arrV _ _ _).slots.size ≤ _); rw [arrV_size]; exact hin) rfl rfl d fun H1 e z oq => ?_
  rw [z_nz h01] at e
  refine kk _ _ _ (I.put ha zI_ne zI_ne hbase z oq ⟨⟨ht, hbase⟩, e.trans ?_⟩) hK
  rw [vp_cell_i, vp_cell_i, arrV_store]
  congr 2
  funext q
  by_cases hq : q = i.toNatClampNeg
  · simp [updV, upd, hq]
  · simp [updV, upd, hq]
theorem z_last (C : zCx X p l s m args meth c own nm cc nL) (I : zWk X s M H locs) {i : Int32} {x : Int64} {K : zM → Prop} (hw : zSl M a i x K) (d : decode cc pc = .ok (.lastore, 1))
    (kk : ∀ (M1 : zM) (H1 : Heap) (locs1 : List Loc), zWk X s M1 H1 locs1 → K M1 → W p l e R s m args below meth c H1 locs1 cells slots Q (F0 m (pc + 1) ls rest)) : W p l e R s m args below meth c H locs cells slots Q (F0 m pc ls (.long x :: .int i :: .ref a :: rest)) := by
  obtain ⟨n, f, ha, hin, hK⟩ := hw
  obtain ⟨hbase, hat⟩ := I.2.2.2.1 a _ ha
  refine W.last C.1.1 C.1.2.1 hat ((C.K.2 3 _ rfl).1 n (fun j => .long (f j))) (fun q => by cases q) (by show ¬ (i < 0 ∨ (arrV _ _ _).slots.size ≤ _); rw [arrV_size]; exact hin) rfl rfl d fun H1 e z oq => ?_
  refine kk _ _ _ (I.put ha zJ_ne zJ_ne hbase z oq ⟨hbase, e.trans ?_⟩) hK
  rw [vp_cell_l, vp_cell_l, arrV_store]
  congr 2
  funext q
  by_cases hq : q = i.toNatClampNeg
  · simp [updV, vp_updL, hq]
  · simp [updV, vp_updL, hq]
theorem z_aastN (C : zCx X p l s m args meth c own nm cc nL) (I : zWk X s M H locs) {i : Int32} {K : zM → Prop} (hw : zSn M a i K) (d : decode cc pc = .ok (.aastore, 1))
    (kk : ∀ (M1 : zM) (H1 : Heap) (locs1 : List Loc), zWk X s M1 H1 locs1 → K M1 → W p l e R s m args below meth c H1 locs1 cells slots Q (F0 m (pc + 1) ls rest)) : W p l e R s m args below meth c H locs cells slots Q (F0 m pc ls (.null :: .int i :: .ref a :: rest)) := by
  obtain ⟨n, f, ha, hin, hK⟩ := hw
  obtain ⟨hbase, hat⟩ := I.2.2.2.1 a _ ha
  refine va_WaastN (C := "java/lang/Object") C.1.1 C.1.2.1 hat ((C.K.2 2 _ rfl).1 n (fun j => va_rf (f j))) (fun q => by cases q) (by show ¬ (i < 0 ∨ (arrV _ _ _).slots.size ≤ _); rw [arrV_size]; exact hin) rfl rfl d fun H1 e z oq => ?_
  refine kk _ _ _ (I.put ha zA_ne zA_ne hbase z oq ⟨hbase, e.trans ?_⟩) hK
  rw [vp_cell_q, vp_cell_q, arrV_store]
  congr 2
  funext q
  by_cases hq : q = i.toNatClampNeg
  · simp [updV, va_up, va_rf, hq]
  · simp [updV, va_up, hq]
/-- every class of ours may stand in a row of objects -/
def zCast : Prop := ∀ (k : Nat) (q : vw_C), vwCl[k]? = some q → Cond.castable q.1 "java/lang/Object" ∈ zG
theorem z_any (C : zCx X p l s m args meth c own nm cc nL) (hcast : zCast) (I : zWk X s M H locs) {v : Nat} {fs : List Value} (hv : M v = some (zO ci fs)) : va_Any "java/lang/Object" s H v := by
  obtain ⟨-, r, hc, hob⟩ := I.2.2.2.1 v _ hv
  refine va_rAny C.K (z_one (q := (v, .inr (ci, fs))) (I.2.2.2.1 v _ hv).2) (q0 := 0) rfl hc fun comp c0 h1 h2 => ?_
  obtain ⟨x, y, g1, g2, g3⟩ := Cond.castable_spec (C.1.2.2.2.2 _ (hcast ci r hc))
  cases Option.some.inj (g1.symm.trans h2)
  cases Option.some.inj (g2.symm.trans h1)
  exact g3
theorem z_aast (C : zCx X p l s m args meth c own nm cc nL) (hcast : zCast) (I : zWk X s M H locs) {i : Int32} {v : Nat} {K : zM → Prop} (hw : zSr M a i v K) (d : decode cc pc = .ok (.aastore, 1))
    (kk : ∀ (M1 : zM) (H1 : Heap) (locs1 : List Loc), zWk X s M1 H1 locs1 → K M1 → W p l e R s m args below meth c H1 locs1 cells slots Q (F0 m (pc + 1) ls rest)) : W p l e R s m args below meth c H locs cells slots Q (F0 m pc ls (.ref v :: .int i :: .ref a :: rest)) := by
  obtain ⟨n, f, cj, fs, ha, hv, hin, hK⟩ := hw
  obtain ⟨hbase, hat⟩ := I.2.2.2.1 a _ ha
  have hlt : i.toNatClampNeg < n := Nat.not_le.mp fun q => hin (Or.inr q)
  have h0 : ¬ i < 0 := fun q => hin (Or.inl q)
  obtain ⟨cellV, g1, g3, ⟨kC, hkC⟩, hasg⟩ := z_any C hcast I hv
  obtain ⟨kA, comp, k1, k2, k3, -⟩ := (C.K.2 2 _ rfl).2
  obtain ⟨kE, hkE, -⟩ := Vm.findClass_spec k3
  refine W.aast C.1.1 C.1.2.1 hat (fun q h => by cases h) (fun h => by cases h) k1 k2 rfl hkE ⟨h0, by show _ < (arrV _ _ _).slots.size; rw [arrV_size]; exact hlt⟩ g1 (fun q h => by rw [h] at g3; cases g3) hkC (hasg _ k3) rfl rfl d fun H1 e z oq => ?_
  refine kk _ _ _ (I.put ha zA_ne zA_ne hbase z oq ⟨hbase, e.trans ?_⟩) hK
  rw [vp_cell_q, vp_cell_q, arrV_store]
  congr 2
  funext q
  by_cases hq : q = i.toNatClampNeg
  · simp [updV, va_up, va_rf, hq]
  · simp [updV, va_up, hq]
theorem z_alen (C : zCx X p l s m args meth c own nm cc nL) (I : zWk X s M H locs) {K : Int32 → Prop} (hw : zLn M a K) (d : decode cc pc = .ok (.arraylength, 1))
    (kk : ∀ v, K v → W p l e R s m args below meth c H locs cells slots Q (F0 m (pc + 1) ls (.int v :: rest))) : W p l e R s m args below meth c H locs cells slots Q (F0 m pc ls (.ref a :: rest)) := by
  obtain ⟨e, n, ha, hn, hK⟩ := hw
  have hz := I.2.2.2.1 a _ ha
  obtain ⟨t, n', f⟩ | ⟨n', f⟩ | ⟨n', f⟩ | ⟨k', fs⟩ | u | ⟨n', f⟩ := e
  · cases hn
    obtain ⟨⟨ht, hbase⟩, hat⟩ := hz
    rcases (show t = 0 ∨ t = 1 by omega) with rfl | rfl
    · exact W.alen (n := Int32.ofNat n) C.1.1 C.1.2.1 hat ((C.K.2 0 _ rfl).1 n (fun j => .int (f j))) (by rw [vp_cell_i, arrV_size] <;> rfl) rfl rfl d (kk _ hK)
    · exact W.alen (n := Int32.ofNat n) C.1.1 C.1.2.1 hat ((C.K.2 1 _ rfl).1 n (fun j => .int (f j))) (by rw [vp_cell_i, arrV_size] <;> rfl) rfl rfl d (kk _ hK)
  · cases hn
    exact W.alen (n := Int32.ofNat n) C.1.1 C.1.2.1 hz.2 ((C.K.2 2 _ rfl).1 n (fun j => va_rf (f j))) (by rw [vp_cell_q, arrV_size] <;> rfl) rfl rfl d (kk _ hK)
  · cases hn
    exact W.alen (n := Int32.ofNat n) C.1.1 C.1.2.1 hz.2 ((C.K.2 3 _ rfl).1 n (fun j => .long (f j))) (by rw [vp_cell_l, arrV_size] <;> rfl) rfl rfl d (kk _ hK)
  · cases hn
  · cases hn
    obtain ⟨⟨cell, h1, h2, h3, h4, h5, h6, h7⟩, -⟩ := hz
    exact W.alen (n := Int32.ofNat 0) C.1.1 C.1.2.1 (by rw [I.2.2.1 a (Nat.not_le.mp h7)]; exact h1) (State.isArrayOf_alike C.2.2.2.1.alike h2) h5 rfl rfl d (kk _ hK)
  · cases hn
    obtain ⟨⟨scr, h1, h2, h3, h4, h5⟩, hnb⟩ := hz
    exact W.alen (n := Int32.ofNat n) C.1.1 C.1.2.1 (by rw [I.2.2.1 a (Nat.not_le.mp hnb)]; exact h1) (State.isArrayOf_alike C.2.2.2.1.alike h2) (by rw [h4] <;> rfl) rfl rfl d (kk _ hK)
end ZR
end
section
/-! ===== making, calling, returning, throwing ===== -/
theorem z_word {own : String} {p : Program} {m : MethodId} {c : Code} {cc : ByteArray} {nL : Nat} {s : State} {args : Array Value} (C : CallFix p m c cc nL s args zG own) {w : Cond} (h : w ∈ zG) : w.before args s = true := C.2.2.2.2 w h
theorem zRep.grow {X : zX} {M : zM} {H H1 : Heap} (h : zRep X M H) (z : H.size ≤ H1.size) (o : ∀ q : Nat, q < H.size → H1[q]? = H[q]?) : zRep X M H1 :=
  ⟨Nat.le_trans h.1 z, fun q hq => (o q (Nat.lt_of_lt_of_le hq h.1)).trans (h.2.1 q hq), fun a e ha => (h.2.2.1 a e ha).kept (o a (h.lt ha)), h.2.2.2⟩
def zNc (own : String) (idx ci : Nat) (Cn : String) (T : u_T) (N : Nat) (ty : Nat → FieldType) : Prop :=
  vwCl[ci]? = some (Cn, T, N) ∧ (∀ w ∈ u_ws Cn T N, w ∈ zG) ∧ (∀ k, k < N → parseFieldDescriptor (T k).2.2.1 = some (ty k)) ∧ Cond.classLink own idx Cn ∈ zG ∧ Cond.instantiable Cn N ∈ zG ∧ Cond.initialized Cn ∈ zG
/-- a call's certificates: an instance method, a static one, a constructor -/
def zCv (own : String) (idx : Nat) (Cn : String) (y : MethodName) (b : ByteArray) (n : Nat) (r : Option FieldType) (na : Nat) : Prop :=
  (Cond.methodLink own idx y ∈ zG ∧ Cond.instanceMethod y ∈ zG ∧ Cond.selects Cn y y ∈ zG ∧ Cond.initialized Cn ∈ zG ∧ Cond.code y b n r ∈ zG) ∧ y.cls = Cn ∧ y.cls ≠ "java/lang/invoke/MethodHandle" ∧ y.cls ≠ "java/lang/invoke/VarHandle" ∧ (parseMethodDescriptor y.desc).map (fun d => d.parameters.length) = some na
def zCs (own : String) (idx : Nat) (y : MethodName) (b : ByteArray) (n : Nat) (r : Option FieldType) (na : Nat) : Prop :=
  (Cond.methodLink own idx y ∈ zG ∧ Cond.static y ∈ zG ∧ Cond.initialized y.cls ∈ zG ∧ Cond.code y b n r ∈ zG) ∧ y.cls ≠ "java/lang/invoke/MethodHandle" ∧ y.cls ≠ "java/lang/invoke/VarHandle" ∧ (parseMethodDescriptor y.desc).map (fun d => d.parameters.length) = some na
def zCsN (own : String) (idx : Nat) (y : MethodName) (host : String) (b : ByteArray) (n : Nat) (r : Option FieldType) (na : Nat) : Prop :=
  (Cond.methodLinkNest own idx y host ∈ lw_tbl ∧ Cond.static y ∈ zG ∧ Cond.initialized y.cls ∈ zG ∧ Cond.code y b n r ∈ zG) ∧ y.cls ≠ "java/lang/invoke/MethodHandle" ∧ y.cls ≠ "java/lang/invoke/VarHandle" ∧ (parseMethodDescriptor y.desc).map (fun d => d.parameters.length) = some na
def zCi (own : String) (idx : Nat) (y : MethodName) (b : ByteArray) (n : Nat) (na : Nat) : Prop :=
  (Cond.methodLink own idx y ∈ zG ∧ Cond.instanceMethod y ∈ zG ∧ Cond.initialized y.cls ∈ zG ∧ Cond.code y b n none ∈ zG ∧ y.name = "<init>") ∧ y.cls ≠ "java/lang/invoke/MethodHandle" ∧ y.cls ≠ "java/lang/invoke/VarHandle" ∧ (parseMethodDescriptor y.desc).map (fun d => d.parameters.length) = some na
section ZC
variable {X : zX} {p : Program} {l : Launch} {e : Env} {R : Room} {s : State} {m : MethodId} {args : Array Value} {below : List Frame} {meth : Method} {c : Code} {H : Heap} {locs : List Loc} {cells slots : Nat} {Q : State → Prop}
variable {cc : ByteArray} {pc nL idx : Nat} {ls : Array Slot} {rest : List Value} {own nm : String} {M : zM} {a ci k : Nat} {Cn : String} {T : u_T} {N : Nat} {ty : Nat → FieldType}
theorem z_new (C : zCx X p l s m args meth c own nm cc nL) (I : zWk X s M H locs) (F : zNc own idx ci Cn T N ty) {fs : List Value} (hfs : ∀ j, j < N → defaultValue (ty j) = vp_V fs j) {K : Nat → zM → Prop} (hw : zNw M ci fs K) (h1 : cells + 1 ≤ R.cells) (h2 : slots + N ≤ R.slots) (d : decode cc pc = .ok (.new idx, 3))
    (kk : ∀ (q : Nat) (M1 : zM) (H1 : Heap), zWk X s M1 H1 locs → K q M1 → W p l e R s m args below meth c H1 locs (cells + 1) (slots + N) Q (F0 m (pc + 3) ls (.ref q :: rest))) : W p l e R s m args below meth c H locs cells slots Q (F0 m pc ls rest) := by
  obtain ⟨hc, hin, hty, w1, w2, w3⟩ := F
  have hKn := C.K.1 ci _ hc
  refine W.newcK C.1.1 C.1.2.1 C.1.2.2.2.1 (z_word C.1 w1) (z_word C.1 w2) (z_word C.1 w3) rfl d h1 h2 hKn.2.1 rfl fun H1 kC hkC e1 z1 o1 => ?_
  exact kk H.size _ _ (I.new zO_ne z1 o1 ⟨I.2.1, _, hc, (u_born ty C.1.2.2.2.2 hin hKn hkC e1 hty).to hfs⟩) (hw _ (I.2.new (Nat.le_refl _)))
theorem z_newi (C : zCx X p l s m args meth c own nm cc nL) (I : zWk X s M H locs) (w1 : Cond.arrayClass .int ∈ zG) {n : Int32} {mx : Nat} {K : Nat → zM → Prop} (hw : zNi M 0 n mx K) (hmx : mx ≤ 100000) (h1 : cells + 1 ≤ R.cells) (h2 : slots + mx ≤ R.slots) (d : decode cc pc = .ok (.newarray .int, 2))
    (kk : ∀ (q : Nat) (M1 : zM) (H1 : Heap), zWk X s M1 H1 locs → K q M1 → W p l e R s m args below meth c H1 locs (cells + 1) (slots + mx) Q (F0 m (pc + 2) ls (.ref q :: rest))) : W p l e R s m args below meth c H locs cells slots Q (F0 m pc ls (.int n :: rest)) := by
  obtain ⟨hn, hle, hK⟩ := hw
  refine va_newaK (atype := .int) C.1.1 C.1.2.1 (z_word C.1 w1) rfl d rfl hn rfl (by show n.toNatClampNeg * 4 ≤ _; omega) h1 (by omega) rfl fun H1 cA e1 z1 o1 hAr hNm => ?_
  have hcA : s.vm.findClass ("[" ++ (FieldType.int).toString) = some (X.2.2 0) := (C.K.2 0 _ rfl).2
  have hcB : s.vm.findClass ("[" ++ (FieldType.int).toString) = some cA := hNm
  cases Option.some.inj (hcA.symm.trans hcB)
  refine W.widen (Nat.le_refl _) (Nat.add_le_add_left hle _) ?_
  exact kk H.size _ _ (I.new (e := zI 0 n.toNatClampNeg (fun _ => 0)) zI_ne z1 o1 ⟨⟨by decide, I.2.1⟩, e1⟩) (hK _ (I.2.new (Nat.le_refl _)))
theorem z_newz (C : zCx X p l s m args meth c own nm cc nL) (I : zWk X s M H locs) (w1 : Cond.arrayClass .boolean ∈ zG) {n : Int32} {mx : Nat} {K : Nat → zM → Prop} (hw : zNi M 1 n mx K) (hmx : mx ≤ 100000) (h1 : cells + 1 ≤ R.cells) (h2 : slots + mx ≤ R.slots) (d : decode cc pc = .ok (.newarray .boolean, 2))
    (kk : ∀ (q : Nat) (M1 : zM) (H1 : Heap), zWk X s M1 H1 locs → K q M1 → W p l e R s m args below meth c H1 locs (cells + 1) (slots + mx) Q (F0 m (pc + 2) ls (.ref q :: rest))) : W p l e R s m args below meth c H locs cells slots Q (F0 m pc ls (.int n :: rest)) := by
  obtain ⟨hn, hle, hK⟩ := hw
  refine va_newaK (atype := .boolean) C.1.1 C.1.2.1 (z_word C.1 w1) rfl d rfl hn rfl (by show n.toNatClampNeg * 1 ≤ _; omega) h1 (by omega) rfl fun H1 cA e1 z1 o1 hAr hNm => ?_
  have hcA : s.vm.findClass ("[" ++ (FieldType.boolean).toString) = some (X.2.2 1) := (C.K.2 1 _ rfl).2
  have hcB : s.vm.findClass ("[" ++ (FieldType.boolean).toString) = some cA := hNm
  cases Option.some.inj (hcA.symm.trans hcB)
  refine W.widen (Nat.le_refl _) (Nat.add_le_add_left hle _) ?_
  exact kk H.size _ _ (I.new (e := zI 1 n.toNatClampNeg (fun _ => 0)) zI_ne z1 o1 ⟨⟨by decide, I.2.1⟩, e1⟩) (hK _ (I.2.new (Nat.le_refl _)))
theorem z_newl (C : zCx X p l s m args meth c own nm cc nL) (I : zWk X s M H locs) (w1 : Cond.arrayClass .long ∈ zG) {n : Int32} {mx : Nat} {K : Nat → zM → Prop} (hw : zNl M n mx K) (hmx : mx ≤ 100000) (h1 : cells + 1 ≤ R.cells) (h2 : slots + mx ≤ R.slots) (d : decode cc pc = .ok (.newarray .long, 2))
    (kk : ∀ (q : Nat) (M1 : zM) (H1 : Heap), zWk X s M1 H1 locs → K q M1 → W p l e R s m args below meth c H1 locs (cells + 1) (slots + mx) Q (F0 m (pc + 2) ls (.ref q :: rest))) : W p l e R s m args below meth c H locs cells slots Q (F0 m pc ls (.int n :: rest)) := by
  obtain ⟨hn, hle, hK⟩ := hw
  refine va_newaK (atype := .long) C.1.1 C.1.2.1 (z_word C.1 w1) rfl d rfl hn rfl (by show n.toNatClampNeg * 8 ≤ _; omega) h1 (by omega) rfl fun H1 cA e1 z1 o1 hAr hNm => ?_
  have hcA : s.vm.findClass ("[" ++ (FieldType.long).toString) = some (X.2.2 3) := (C.K.2 3 _ rfl).2
  have hcB : s.vm.findClass ("[" ++ (FieldType.long).toString) = some cA := hNm
  cases Option.some.inj (hcA.symm.trans hcB)
  refine W.widen (Nat.le_refl _) (Nat.add_le_add_left hle _) ?_
  exact kk H.size _ _ (I.new (e := zJ n.toNatClampNeg (fun _ => 0)) zJ_ne z1 o1 ⟨I.2.1, e1⟩) (hK _ (I.2.new (Nat.le_refl _)))
theorem z_newo (C : zCx X p l s m args meth c own nm cc nL) (I : zWk X s M H locs) (w1 : Cond.classLink own idx "java/lang/Object" ∈ zG) {n : Int32} {mx : Nat} {K : Nat → zM → Prop} (hw : zNo M n mx K) (hmx : mx ≤ 100000) (h1 : cells + 1 ≤ R.cells) (h2 : slots + mx ≤ R.slots) (d : decode cc pc = .ok (.anewarray idx, 3))
    (kk : ∀ (q : Nat) (M1 : zM) (H1 : Heap), zWk X s M1 H1 locs → K q M1 → W p l e R s m args below meth c H1 locs (cells + 1) (slots + mx) Q (F0 m (pc + 3) ls (.ref q :: rest))) : W p l e R s m args below meth c H locs cells slots Q (F0 m pc ls (.int n :: rest)) := by
  obtain ⟨hn, hle, hK⟩ := hw
  have hover : va_AO "java/lang/Object" s := va_AO.moved C.2.2.2.1.alike C.2.2.2.2.1.2.2.2.2.2.2
  refine W.anew C.1.1 C.1.2.1 C.1.2.2.2.1 (z_word C.1 w1) (va_AO.use hover) rfl d rfl hn (by omega) h1 (by omega) fun cA kA comp f1 f2 f3 f4 => ?_
  generalize hH1 : H.push ({ cls := cA, slots := Array.replicate n.toNatClampNeg .null, vm := .none } : Cell) = H1
  have z1 : H1.size = H.size + 1 := by rw [← hH1, Array.size_push]
  have e1 : H1[H.size]? = some (arrV cA n.toNatClampNeg (fun _ => .null)) := by rw [← hH1, Array.getElem?_push_size, ← arrV_new]
  have o1 : ∀ q : Nat, q < H.size → H1[q]? = H[q]? := fun q hq => by rw [← hH1, Array.getElem?_push, if_neg (Nat.ne_of_lt hq)]
  obtain ⟨-, -, -, -, -, hcA⟩ := (C.K.2 2 _ rfl).2
  cases Option.some.inj (hcA.symm.trans f1)
  refine W.widen (Nat.le_refl _) (Nat.add_le_add_left hle _) ?_
  exact kk H.size _ _ (I.new (e := zA n.toNatClampNeg (fun _ => none)) zA_ne z1 o1 ⟨I.2.1, by rw [vp_cell_q]; exact e1⟩) (hK _ (I.2.new (Nat.le_refl _)))
/-- what a call that returned or threw leaves of the walk -/
theorem z_after (I : zWk X s M H locs) {M1 : zM} {t : State} {T' : State} {L : List Loc} {h0 : Heap} (hz : h0.size ≤ t.heap.size) (e0 : h0 = H) (hR : zRep X M1 t.heap) (e1 : T'.heap = t.heap) (hL : ∀ q ∈ L, zBase X q.base) : zWk X s M1 T'.heap (locs ++ L) := by
  subst e0
  rw [e1]
  refine ⟨⟨Nat.le_trans I.1.1 hz, fun q h1 h2 => ?_, fun q hq => ?_⟩, hR⟩
  · have hb : q < X.1.heap.size := Nat.not_le.mp h2
    rw [← I.1.2.1 q h1 h2, I.2.2.1 q hb]
    exact hR.2.1 q hb
  · rcases List.mem_append.mp hq with h | h
    · exact I.1.2.2 q h
    · exact hL q h
theorem z_run {mc ms : Nat} {g : JFrame} {P : Option Value → zM → Prop} {PX : Nat → zM → Prop} {av : Array Value} (I : zWk X s M H locs) {pc : Nat} {ls : Array Slot} {st : List Value} (hr : vx_Run p l e R s m args below meth c H locs cells slots mc ms (F0 m pc ls st) rest (zQc X P av) (zXc X PX) (zBase X))
    (kx : ∀ (k : Nat) (M1 : zM) (H1 : Heap) (locs1 : List Loc) (ce : Cell) (q9 : Addr), zWk X s M1 H1 locs1 → PX k M1 → H1[q9]? = some ce → ce.vm = .none → s.vm.findClass (zXn k) = some ce.cls → vx_W p l e R s m args below meth c H1 locs1 (cells + mc) (slots + ms) Q (F0 m pc ls rest) q9)
    (kk : ∀ (v : Option Value) (M1 : zM) (H1 : Heap) (locs1 : List Loc), zWk X s M1 H1 locs1 → P v M1 → W p l e R s m args below meth c H1 locs1 (cells + mc) (slots + ms) Q (F0 m (pc + 3) ls (v.toList ++ rest))) : W p l e R s m args below meth c H locs cells slots Q (F0 m pc ls st) := by
  intro T hT Xs
  rcases hr T hT Xs with ⟨v, st₀, t, T', L, h0, X', hL, e1, e2, ⟨v', M1, hv, hP, hR, hz⟩, stp⟩ | ⟨q, st₀, t, T', L, E, ce, h0, X', hL, e1, e2, ⟨k, M1, hE, hP, hR, hz⟩, hce, hcv, hcl, stp⟩
  · cases hv
    obtain ⟨t2, a1, b1⟩ := kk v M1 T'.heap (locs ++ L) (z_after I hz h0 hR e1 hL) hP T' rfl X'
    exact ⟨t2, stp t2 a1, b1⟩
  · subst hE
    obtain ⟨t2, a1, b1⟩ := kx k M1 T'.heap (locs ++ L) ce q (z_after I hz h0 hR e1 hL) hP (by rw [e1]; exact hce) hcv hcl T' rfl X'
    exact ⟨t2, stp.trans a1, b1⟩
theorem z_pre (C : zCx X p l s m args meth c own nm cc nL) (I : zWk X s M H locs) (as : List Value) : ∀ U : State, U.heap = H → s.WarmedH U.vm → zPc X M as as.toArray U := fun U hU hW => ⟨rfl, State.WarmedH.trans C.2.2.2.1 hW, by rw [hU]; exact I.2⟩
theorem z_good {ws : List Cond} (h : ∀ w ∈ ws, w ∈ zG ∧ goodWord w = true) : GoodIn zG ws := fun w hw => ⟨(h w hw).1, good_of_word (h w hw).2⟩
theorem z_callV (C : zCx X p l s m args meth c own nm cc nL) (I : zWk X s M H locs) {y : MethodName} {b : ByteArray} {n na : Nat} {r : Option FieldType} {fr lo mc ms : Nat} {as : List Value} {P : Option Value → zM → Prop} {PX : Nat → zM → Prop} (hM : zCT X l y b n r fr lo mc ms M (.ref a :: as) P PX) (cv : zCv own idx Cn y b n r na) (hc : vwCl[ci]? = some (Cn, T, N)) (ha : ∃ fs, M a = some (zO ci fs)) (hn : as.length = na) {st : List Value} (hst : st = as.reverse ++ .ref a :: rest) (hsize : ls.size = nL) (hcat : (rest.map fun v => v.category).sum ≤ 8) (hR : fr + 1 ≤ R.frames ∧ 8 + (n + 11) + lo ≤ R.locals) (hf : cells + mc ≤ R.cells ∧ slots + ms ≤ R.slots) (d : decode cc pc = .ok (.invokevirtual idx, 3))
    (kx : ∀ (k : Nat) (M1 : zM) (H1 : Heap) (locs1 : List Loc) (ce : Cell) (q9 : Addr), zWk X s M1 H1 locs1 → PX k M1 → H1[q9]? = some ce → ce.vm = .none → s.vm.findClass (zXn k) = some ce.cls → vx_W p l e R s m args below meth c H1 locs1 (cells + mc) (slots + ms) Q (F0 m pc ls rest) q9)
    (kk : ∀ (v : Option Value) (M1 : zM) (H1 : Heap) (locs1 : List Loc), zWk X s M1 H1 locs1 → P v M1 → W p l e R s m args below meth c H1 locs1 (cells + mc) (slots + ms) Q (F0 m (pc + 3) ls (v.toList ++ rest))) : W p l e R s m args below meth c H locs cells slots Q (F0 m pc ls st) := by
  obtain ⟨⟨w1, w2, w3, w4, w5⟩, hd⟩ := cv
  obtain ⟨fs, ha⟩ := ha
  have hG : GoodIn zG (wsV own idx Cn y [.code y b n r]) := z_good fun w hw => by
    simp only [wsV, List.cons_append, List.nil_append, List.mem_cons, List.not_mem_nil, or_false] at hw
    rcases hw with rfl | rfl | rfl | rfl | rfl
    · exact ⟨w1, rfl⟩
    · exact ⟨w2, rfl⟩
    · exact ⟨w3, rfl⟩
    · exact ⟨w4, rfl⟩
    · exact ⟨w5, rfl⟩
  subst hst
  exact z_run (g := F0 m pc ls []) I (vx_runV (g := F0 m pc ls (as.reverse ++ .ref a :: rest)) C.1 hM (cwV na C.1.2.2.2.2 hG rfl rfl rfl hd hR) ⟨zPc_blind, va_recv C.K (z_one (q := (a, .inr (ci, fs))) (I.2.2.2.1 a _ ha).2) (q0 := 0) hc rfl, z_pre C I _⟩ rfl hn hsize rfl (lv_room hcat) d hf) kx kk
theorem z_callS (C : zCx X p l s m args meth c own nm cc nL) (I : zWk X s M H locs) {y : MethodName} {b : ByteArray} {n na : Nat} {r : Option FieldType} {fr lo mc ms : Nat} {as : List Value} {P : Option Value → zM → Prop} {PX : Nat → zM → Prop} (hM : zCT X l y b n r fr lo mc ms M as P PX) (cv : zCs own idx y b n r na) (hn : as.length = na) {st : List Value} (hst : st = as.reverse ++ rest) (hsize : ls.size = nL) (hcat : (rest.map fun v => v.category).sum ≤ 8) (hR : fr + 1 ≤ R.frames ∧ 8 + (n + 11) + lo ≤ R.locals) (hf : cells + mc ≤ R.cells ∧ slots + ms ≤ R.slots) (d : decode cc pc = .ok (.invokestatic idx, 3))
    (kx : ∀ (k : Nat) (M1 : zM) (H1 : Heap) (locs1 : List Loc) (ce : Cell) (q9 : Addr), zWk X s M1 H1 locs1 → PX k M1 → H1[q9]? = some ce → ce.vm = .none → s.vm.findClass (zXn k) = some ce.cls → vx_W p l e R s m args below meth c H1 locs1 (cells + mc) (slots + ms) Q (F0 m pc ls rest) q9)
    (kk : ∀ (v : Option Value) (M1 : zM) (H1 : Heap) (locs1 : List Loc), zWk X s M1 H1 locs1 → P v M1 → W p l e R s m args below meth c H1 locs1 (cells + mc) (slots + ms) Q (F0 m (pc + 3) ls (v.toList ++ rest))) : W p l e R s m args below meth c H locs cells slots Q (F0 m pc ls st) := by
  obtain ⟨⟨w1, w2, w3, w4⟩, hd⟩ := cv
  have hG : GoodIn zG (va_wsS own idx y [.code y b n r]) := z_good fun w hw => by
    simp only [va_wsS, List.cons_append, List.nil_append, List.mem_cons, List.not_mem_nil, or_false] at hw
    rcases hw with rfl | rfl | rfl | rfl
    · exact ⟨w1, rfl⟩
    · exact ⟨w2, rfl⟩
    · exact ⟨w3, rfl⟩
    · exact ⟨w4, rfl⟩
  subst hst
  exact z_run (g := F0 m pc ls []) I (vx_runS (g := F0 m pc ls (as.reverse ++ rest)) C.1 hM (va_cwS na C.1.2.2.2.2 hG rfl rfl rfl hd hR) ⟨zPc_blind, z_pre C I _⟩ rfl hn hsize rfl (lv_room hcat) d hf) kx kk
end ZC
end
section
/-! ===== constructors, returns, throws, casts ===== -/
/-- a contract that never throws is one of the plain kind -/
theorem z_met {X : zX} {l : Launch} {y : MethodName} {b : ByteArray} {n : Nat} {r : Option FieldType} {fr lo mc ms : Nat} {M : zM} {as : List Value} {P : Option Value → zM → Prop} (h : zCT X l y b n r fr lo mc ms M as P (fun _ _ => False)) : Met l y [.code y b n r] (zRm fr lo mc ms) (zPc X M as) (zQc X P) mc ms (zBase X) := by
  intro p e h1 h2 h3 s m args below h4 h5 h6 h7
  obtain ⟨k, o, g1, g2, g3, hQ⟩ := h p e h1 h2 h3 s m args below h4 h5 h6 h7
  refine ⟨k, o, g1, g2, g3, ?_⟩
  rcases hQ with hQ | ⟨q, -, E, ce, L, ⟨k9, M9, -, hF, -⟩, -⟩
  · exact hQ
  · exact hF.elim
section ZD
variable {X : zX} {p : Program} {l : Launch} {e : Env} {R : Room} {s : State} {m : MethodId} {args : Array Value} {below : List Frame} {meth : Method} {c : Code} {H : Heap} {locs : List Loc} {cells slots : Nat} {Q : State → Prop}
variable {cc : ByteArray} {pc nL idx : Nat} {ls : Array Slot} {rest : List Value} {own nm : String} {M : zM} {a ci k : Nat} {Cn : String} {T : u_T} {N : Nat} {ty : Nat → FieldType}
theorem z_runM {mc ms : Nat} {P : Option Value → zM → Prop} {av : Array Value} (I : zWk X s M H locs) {st : List Value} (hr : va_Run p l e R s m args below meth c H locs cells slots mc ms (F0 m pc ls st) rest (zQc X P av) (zBase X))
    (kk : ∀ (v : Option Value) (M1 : zM) (H1 : Heap) (locs1 : List Loc), zWk X s M1 H1 locs1 → P v M1 → W p l e R s m args below meth c H1 locs1 (cells + mc) (slots + ms) Q (F0 m (pc + 3) ls (v.toList ++ rest))) : W p l e R s m args below meth c H locs cells slots Q (F0 m pc ls st) := by
  intro T hT Xs
  obtain ⟨v, st₀, t, T', L, h0, X', hL, e1, e2, ⟨v', M1, hv, hP, hR, hz⟩, stp⟩ := hr T hT Xs
  cases hv
  obtain ⟨t2, a1, b1⟩ := kk v M1 T'.heap (locs ++ L) (z_after I hz h0 hR e1 hL) hP T' rfl X'
  exact ⟨t2, stp t2 a1, b1⟩
theorem z_callI (C : zCx X p l s m args meth c own nm cc nL) (I : zWk X s M H locs) {y : MethodName} {b : ByteArray} {n na : Nat} {fr lo mc ms : Nat} {as : List Value} {K : zM → Prop} (hM : zCT X l y b n none fr lo mc ms M (.ref a :: as) (zPv K) (fun _ _ => False)) (cv : zCi own idx y b n na) (hn : as.length = na) {st : List Value} (hst : st = as.reverse ++ .ref a :: rest) (hsize : ls.size = nL) (hcat : (rest.map fun v => v.category).sum ≤ 8) (hR : fr + 1 ≤ R.frames ∧ 8 + (n + 11) + lo ≤ R.locals) (hf : cells + mc ≤ R.cells ∧ slots + ms ≤ R.slots) (d : decode cc pc = .ok (.invokespecial idx, 3))
    (kk : ∀ (M1 : zM) (H1 : Heap) (locs1 : List Loc), zWk X s M1 H1 locs1 → K M1 → W p l e R s m args below meth c H1 locs1 (cells + mc) (slots + ms) Q (F0 m (pc + 3) ls rest)) : W p l e R s m args below meth c H locs cells slots Q (F0 m pc ls st) := by
  obtain ⟨⟨w1, w2, w3, w4, w5⟩, hd⟩ := cv
  have hG : GoodIn zG [.code y b n none] := z_good fun w hw => by
    simp only [List.mem_cons, List.not_mem_nil, or_false] at hw
    rcases hw with rfl
    exact ⟨w4, rfl⟩
  subst hst
  refine z_runM I (va_runI (g := F0 m pc ls (as.reverse ++ .ref a :: rest)) C.1 (z_met hM) (cwI na C.1.2.2.2.2 hG rfl rfl rfl (z_word C.1 w3) (z_word C.1 w1) (z_word C.1 w2) w5 hd hR) ⟨zPc_blind, z_pre C I _⟩ rfl hn hsize rfl (lv_room hcat) d hf) (fun v M1 H1 locs1 I1 hP => ?_)
  obtain ⟨rfl, hK⟩ := hP
  exact kk M1 H1 locs1 I1 hK
theorem z_callSN (C : zCx X p l s m args meth c own nm cc nL) (I : zWk X s M H locs) {y : MethodName} {host : String} {b : ByteArray} {n na : Nat} {r : Option FieldType} {fr lo mc ms : Nat} {as : List Value} {P : Option Value → zM → Prop} (hM : zCT X l y b n r fr lo mc ms M as P (fun _ _ => False)) (cv : zCsN own idx y host b n r na) (hn : as.length = na) {st : List Value} (hst : st = as.reverse ++ rest) (hsize : ls.size = nL) (hcat : (rest.map fun v => v.category).sum ≤ 8) (hR : fr + 1 ≤ R.frames ∧ 8 + (n + 11) + lo ≤ R.locals) (hf : cells + mc ≤ R.cells ∧ slots + ms ≤ R.slots) (d : decode cc pc = .ok (.invokestatic idx, 3))
    (kk : ∀ (v : Option Value) (M1 : zM) (H1 : Heap) (locs1 : List Loc), zWk X s M1 H1 locs1 → P v M1 → W p l e R s m args below meth c H1 locs1 (cells + mc) (slots + ms) Q (F0 m (pc + 3) ls (v.toList ++ rest))) : W p l e R s m args below meth c H locs cells slots Q (F0 m pc ls st) := by
  obtain ⟨⟨w1, w2, w3, w4⟩, hd⟩ := cv
  have hG : GoodIn zG [.code y b n r] := z_good fun w hw => by
    simp only [List.mem_cons, List.not_mem_nil, or_false] at hw
    rcases hw with rfl
    exact ⟨w4, rfl⟩
  obtain ⟨A, hA⟩ := C.2.2.2.2.1.2.2.1
  have hnest : va_Nw (.methodLinkNest own idx y host) s := va_Nw.warmM C.2.2.2.1 (va_Nw.of rfl (hA _ w1))
  subst hst
  exact z_runM I (va_runSN (g := F0 m pc ls (as.reverse ++ rest)) C.1 (z_met hM) ⟨va_cnB na C.1.2.2.2.2 hG rfl rfl rfl hnest (z_word C.1 w3) hd hR, z_word C.1 w2, trivial⟩ ⟨zPc_blind, z_pre C I _⟩ rfl hn hsize rfl (lv_room hcat) d hf) kk
theorem z_objInit (C : zCx X p l s m args meth c own nm cc nL) (w1 : Cond.methodLink own idx Lib.objectInit ∈ zG) (w2 : Cond.instanceMethod Lib.objectInit ∈ zG) (w3 : Cond.code Lib.objectInit ⟨#[0xb1]⟩ 1 none ∈ zG) (hsize : ls.size = nL) (hcat : (rest.map fun v => v.category).sum ≤ 8) (hR : 1 ≤ R.frames ∧ 20 ≤ R.locals) (d : decode cc pc = .ok (.invokespecial idx, 3))
    (kk : W p l e R s m args below meth c H locs cells slots Q (F0 m (pc + 3) ls rest)) : W p l e R s m args below meth c H locs cells slots Q (F0 m pc ls (.ref a :: rest)) :=
  W.objInit C.1.1 C.1.2.1 C.1.2.2.2.1 (z_word C.1 w1) (z_word C.1 w2) (z_word C.1 w3) rfl (hsize.trans C.1.2.2.1.symm) rfl d hR.1 (by show 2 * 0 + _ + 12 ≤ _; omega) kk
/-! ends -/
variable {P : Option Value → zM → Prop} {PX : Nat → zM → Prop} {mc0 ms0 : Nat}
theorem z_q (C : zCx X p l s m args meth c own nm cc nL) (I : zWk X s M H locs) {v : Option Value} (hw : P v M) : ∀ t : State, t.heap = H → s.WarmedH t.vm → zQc X P args s (.returned v) t := fun t ht _ => ⟨v, M, rfl, hw, by rw [ht]; exact I.2, by rw [ht]; exact I.1.1⟩
theorem z_iret (C : zCx X p l s m args meth c own nm cc nL) (I : zWk X s M H locs) (hr : meth.sig.returnType = some .int) {v : Int32} (hw : P (some (.int v)) M) (h1 : cells ≤ mc0) (h2 : slots ≤ ms0) (d : decode cc pc = .ok (.ireturn, 1)) : W p l e R s m args below meth c H locs cells slots (vx_MQ below (zQc X P) (zXc X PX) args s mc0 ms0 (zBase X)) (F0 m pc ls [.int v]) :=
  W.widen h1 h2 (vx_ret (W.iret C.1.1 C.1.2.1 hr (z_q C I hw) I.1.2.2 d C.2.1))
theorem z_zret (C : zCx X p l s m args meth c own nm cc nL) (I : zWk X s M H locs) (hr : meth.sig.returnType = some .boolean) {v : Int32} (h01 : v = 0 ∨ v = 1) (hw : P (some (.int v)) M) (h1 : cells ≤ mc0) (h2 : slots ≤ ms0) (d : decode cc pc = .ok (.ireturn, 1)) : W p l e R s m args below meth c H locs cells slots (vx_MQ below (zQc X P) (zXc X PX) args s mc0 ms0 (zBase X)) (F0 m pc ls [.int v]) :=
  W.widen h1 h2 (vx_ret (W.zret C.1.1 C.1.2.1 hr (z_nz h01) (z_q C I hw) I.1.2.2 d C.2.1))
theorem z_aret (C : zCx X p l s m args meth c own nm cc nL) (I : zWk X s M H locs) {rt : FieldType} (hr : meth.sig.returnType = some rt) (hrt : (∃ n, rt = .object n) ∨ ∃ t, rt = .array t) {v : Option Nat} (hw : P (some (va_rf v)) M) (h1 : cells ≤ mc0) (h2 : slots ≤ ms0) (d : decode cc pc = .ok (.areturn, 1)) : W p l e R s m args below meth c H locs cells slots (vx_MQ below (zQc X P) (zXc X PX) args s mc0 ms0 (zBase X)) (F0 m pc ls [va_rf v]) :=
  W.widen h1 h2 (vx_ret (W.aret C.1.1 C.1.2.1 hr hrt (by cases v with | none => exact Or.inl rfl | some x => exact Or.inr ⟨x, rfl⟩) (z_q C I hw) I.1.2.2 d C.2.1))
theorem z_vret (C : zCx X p l s m args meth c own nm cc nL) (I : zWk X s M H locs) (hr : meth.sig.returnType = none) (hw : P none M) (h1 : cells ≤ mc0) (h2 : slots ≤ ms0) (d : decode cc pc = .ok (.return_, 1)) : W p l e R s m args below meth c H locs cells slots (vx_MQ below (zQc X P) (zXc X PX) args s mc0 ms0 (zBase X)) (F0 m pc ls []) :=
  W.widen h1 h2 (vx_ret (W.vret C.1.1 C.1.2.1 hr (z_q C I hw) I.1.2.2 d C.2.1))
/-- what a callee throws goes on to the caller -/
theorem z_prop (C : zCx X p l s m args meth c own nm cc nL) (htab : ∀ x ∈ c.exceptionTable.toList, False) (h1 : cells ≤ mc0) (h2 : slots ≤ ms0) : ∀ (k : Nat) (M1 : zM) (H1 : Heap) (locs1 : List Loc) (ce : Cell) (q9 : Addr), zWk X s M1 H1 locs1 → PX k M1 → H1[q9]? = some ce → ce.vm = .none → s.vm.findClass (zXn k) = some ce.cls → vx_W p l e R s m args below meth c H1 locs1 cells slots (vx_MQ below (zQc X P) (zXc X PX) args s mc0 ms0 (zBase X)) (F0 m pc ls rest) q9 :=
  fun k M1 H1 locs1 ce q9 I hP hc hv hcl => vx_out (fun x hx => (htab x hx).elim) C.2.1 hc hv hcl (fun t ht _ => ⟨k, M1, rfl, hP, by rw [ht]; exact I.2, by rw [ht]; exact I.1.1⟩) I.1.2.2 h1 h2
def zNs : List String := ["java/lang/RuntimeException", "java/lang/Exception"]
/-- a throw's certificate: the class, the text, the constructor -/
def zTh (own : String) (ik is ic : Nat) (text cls : String) : Prop := Cond.classLink own ik cls ∈ zG ∧ Cond.initialized cls ∈ zG ∧ Cond.stringRef own is text ∈ lw_tbl ∧ (∀ w ∈ vx_atS own ic cls zNs, w ∈ zG) ∧ Bundle.fit cls = true ∧ ∀ w ∈ Cond.classLink own ik cls :: Cond.initialized cls :: vx_atS own ic cls zNs, vx_ot w = true
theorem z_throw (C : zCx X p l s m args meth c own nm cc nL) (htab : ∀ x ∈ c.exceptionTable.toList, False) (I : zWk X s M H locs) {ik is ic : Nat} {text : String} (k : Nat) (F : zTh own ik is ic text (zXn k)) (hw : PX k M) (hsize : ls.size = nL)
    (d0 : decode cc pc = .ok (.new ik, 3)) (d3 : decode cc (pc + 3) = .ok (.dup, 1)) (d4 : decode cc (pc + 4) = .ok (.ldc is, 2)) (d6 : decode cc (pc + 6) = .ok (.invokespecial ic, 3)) (d9 : decode cc (pc + 9) = .ok (.athrow, 1))
    (hR : 5 < R.frames ∧ (rest.map fun v => v.category).sum + 82 ≤ R.locals ∧ cells + 1 ≤ R.cells ∧ slots + 6 ≤ R.slots) (hc : cells + 1 ≤ mc0) (hs : slots + 6 ≤ ms0) : W p l e R s m args below meth c H locs cells slots (vx_MQ below (zQc X P) (zXc X PX) args s mc0 ms0 (zBase X)) (F0 m pc ls rest) := by
  obtain ⟨w1, w2, w3, w4, hfit, hgood⟩ := F
  obtain ⟨⟨hx, hb, hml, hown, hts⟩, hlocks, -, hW, ⟨hl, -, -, ⟨hU, hN⟩, hstr, -⟩, hz, hbase⟩ := id C
  obtain ⟨sa, hsa⟩ := hstr _ _ _ w3
  have kept : ∀ q : Nat, q < X.1.heap.size → ¬ zBase X q → s.heap[q]? = X.1.heap[q]? := fun q h _ => hbase q h
  exact vx_throwS hx hb hl (names := zNs) hown hfit (by decide +kernel) (hts _ w1) (hts _ w2) (vk_R.warm hW hsa) (fun w h => hts _ (w4 w h)) hgood (vx_Zq.moved hW.alike (hU.kept kept)) (vx_Zq.moved hW.alike (hN.kept kept)) I.1 (hsize.trans hml.symm) d0 d3 d4 d6 d9 (fun x hx => (htab x hx).elim) hR.1 hR.2.1 hR.2.2.1 hR.2.2.2 hlocks
    (fun t _ h1 h2 => ⟨k, M, rfl, hw, I.2.grow h1 h2, Nat.le_trans I.1.1 h1⟩) I.1.2.2 hc hs
/-! casts, null, the static row -/
def zCk (M : zM) (r : Option Nat) (ci : Nat) (K : Nat → Prop) : Prop := ∃ a fs, r = some a ∧ M a = some (zO ci fs) ∧ K a
def zDf (r : Option Nat) (K : Nat → Prop) : Prop := ∃ a, r = some a ∧ K a
def zIs (M : zM) (a ci : Nat) : Prop := ∃ fs, M a = some (zO ci fs)
theorem z_cast (C : zCx X p l s m args meth c own nm cc nL) (I : zWk X s M H locs) (hc : vwCl[ci]? = some (Cn, T, N)) (w1 : Cond.classLink own idx Cn ∈ zG) {r : Option Nat} {K : Nat → Prop} (hw : zCk M r ci K) (d : decode cc pc = .ok (.checkcast idx, 3))
    (kk : ∀ v, K v → W p l e R s m args below meth c H locs cells slots Q (F0 m (pc + 3) ls (.ref v :: rest))) : W p l e R s m args below meth c H locs cells slots Q (F0 m pc ls (va_rf r :: rest)) := by
  obtain ⟨a, fs, rfl, ha, hK⟩ := hw
  exact va_castS C.1.1 C.1.2.1 C.1.2.2.2.1 (z_word C.1 w1) (C.K.1 ci _ hc).2 (va_recv C.K (z_one (q := (a, .inr (ci, fs))) (I.2.2.2.1 a _ ha).2) (q0 := 0) hc rfl) d (kk a hK)
theorem z_ifnull (C : zCx X p l s m args meth c own nm cc nL) {r : Option Nat} {off : Int} {tgt : Nat} (d : decode cc pc = .ok (.ifnull off, 3)) (ht : (pc : Int) + off = (tgt : Int))
    (kt : r = none → W p l e R s m args below meth c H locs cells slots Q (F0 m tgt ls rest)) (kf : ∀ v, r = some v → W p l e R s m args below meth c H locs cells slots Q (F0 m (pc + 3) ls rest)) : W p l e R s m args below meth c H locs cells slots Q (F0 m pc ls (va_rf r :: rest)) := by
  cases r with
  | none => exact lv_ifnullN C.1.1 C.1.2.1 d ht (kt rfl)
  | some v => exact lv_ifnull C.1.1 C.1.2.1 d (kf v rfl)
theorem z_ifnonnull (C : zCx X p l s m args meth c own nm cc nL) {r : Option Nat} {off : Int} {tgt : Nat} (d : decode cc pc = .ok (.ifnonnull off, 3)) (ht : (pc : Int) + off = (tgt : Int))
    (kt : ∀ v, r = some v → W p l e R s m args below meth c H locs cells slots Q (F0 m tgt ls rest)) (kf : r = none → W p l e R s m args below meth c H locs cells slots Q (F0 m (pc + 3) ls rest)) : W p l e R s m args below meth c H locs cells slots Q (F0 m pc ls (va_rf r :: rest)) := by
  cases r with
  | none => exact lv_ifnonnullN C.1.1 C.1.2.1 d (kf rfl)
  | some v => exact lv_ifnonnull C.1.1 C.1.2.1 d ht (kt v rfl)
theorem z_aloadn (C : zCx X p l s m args meth c own nm cc nL) {k : Fin 4} {i : Nat} {r : Option Nat} (d : decode cc pc = .ok (.aload_n k, 1)) (hi : (k : Nat) = i) (hl : ls[i]? = some (.val (va_rf r)))
    (kk : W p l e R s m args below meth c H locs cells slots Q (F0 m (pc + 1) ls (va_rf r :: rest))) : W p l e R s m args below meth c H locs cells slots Q (F0 m pc ls rest) := by
  cases r with
  | none => exact lv_aload_nN C.1.1 C.1.2.1 d hi hl kk
  | some v => exact lv_aload_n C.1.1 C.1.2.1 d hi hl kk
theorem z_aload (C : zCx X p l s m args meth c own nm cc nL) {i : Nat} {r : Option Nat} (d : decode cc pc = .ok (.aload i, 2)) (hl : ls[i]? = some (.val (va_rf r)))
    (kk : W p l e R s m args below meth c H locs cells slots Q (F0 m (pc + 2) ls (va_rf r :: rest))) : W p l e R s m args below meth c H locs cells slots Q (F0 m pc ls rest) := by
  cases r with
  | none => exact lv_aloadN C.1.1 C.1.2.1 d hl kk
  | some v => exact lv_aload C.1.1 C.1.2.1 d hl kk
theorem z_astoren (C : zCx X p l s m args meth c own nm cc nL) {k : Fin 4} {i n : Nat} {r : Option Nat} {lv lv' : List (Nat × Value)} (d : decode cc pc = .ok (.astore_n k, 1)) (hi : (k : Nat) = i) (h : lv_has ls n lv) (hn : i < n) (hl : (i, va_rf r) :: lv.filter (fun q => !(q.1 == i) && !(q.1 + 1 == i && q.2.category == 2)) = lv')
    (kk : ∀ ls' : Array Slot, lv_has ls' n lv' → W p l e R s m args below meth c H locs cells slots Q (F0 m (pc + 1) ls' rest)) : W p l e R s m args below meth c H locs cells slots Q (F0 m pc ls (va_rf r :: rest)) := by
  cases r with
  | none => exact lv_astore_nN C.1.1 C.1.2.1 d hi h hn hl kk
  | some v => exact lv_astore_n C.1.1 C.1.2.1 d hi h hn hl kk
theorem z_astore (C : zCx X p l s m args meth c own nm cc nL) {i n : Nat} {r : Option Nat} {lv lv' : List (Nat × Value)} (d : decode cc pc = .ok (.astore i, 2)) (h : lv_has ls n lv) (hn : i < n) (hl : (i, va_rf r) :: lv.filter (fun q => !(q.1 == i) && !(q.1 + 1 == i && q.2.category == 2)) = lv')
    (kk : ∀ ls' : Array Slot, lv_has ls' n lv' → W p l e R s m args below meth c H locs cells slots Q (F0 m (pc + 2) ls' rest)) : W p l e R s m args below meth c H locs cells slots Q (F0 m pc ls (va_rf r :: rest)) := by
  cases r with
  | none => exact lv_astoreN C.1.1 C.1.2.1 d h hn hl kk
  | some v => exact lv_astore C.1.1 C.1.2.1 d h hn hl kk
theorem z_gets (C : zCx X p l s m args meth c own nm cc nL) (I : zWk X s M H locs) (w1 : Cond.fieldLink own idx "java/util/ArrayList" "DEFAULTCAPACITY_EMPTY_ELEMENTDATA" "[Ljava/lang/Object;" ∈ zG) {K : Nat → Prop} (hw : zGs M K) (d : decode cc pc = .ok (.getstatic idx, 3))
    (kk : ∀ v, K v → W p l e R s m args below meth c H locs cells slots Q (F0 m (pc + 3) ls (.ref v :: rest))) : W p l e R s m args below meth c H locs cells slots Q (F0 m pc ls rest) := by
  obtain ⟨q, h1, h2⟩ := I.2.2.2.2
  obtain ⟨-, hZ⟩ := I.2.2.2.1 q _ h1
  have hZs : va_Z "java/util/ArrayList" "DEFAULTCAPACITY_EMPTY_ELEMENTDATA" "[Ljava/lang/Object;" (.ref q) (zBase X) s s.heap := va_Z.moved C.2.2.2.1.alike (hZ.kept fun a h _ => C.2.2.2.2.2.2 a h)
  exact va_gets C.1.1 C.1.2.1 hZs I.1 C.1.2.2.2.1 (z_word C.1 w1) (fun _ h => h) d (kk q (hw q h1 h2))
end ZD
end
section
/-! ===== small rows for the generated walks; certificates out of the tables ===== -/
theorem z_catR {r : Option Nat} : (va_rf r).category = 1 := by cases r <;> rfl
theorem z_fz {x : Int32} (h : x = 0 ∨ x = 1) : fits .boolean (.int x) = true := by rcases h with rfl | rfl <;> rfl
theorem z_no {n : String} (r : Option Nat) : narrow (.object n) (va_rf r) = va_rf r := by cases r <;> rfl
theorem z_na {t : FieldType} (r : Option Nat) : narrow (.array t) (va_rf r) = va_rf r := by cases r <;> rfl
theorem z_fo {n : String} (r : Option Nat) : fits (.object n) (va_rf r) = true := by cases r <;> rfl
theorem z_fa {t : FieldType} (r : Option Nat) : fits (.array t) (va_rf r) = true := by cases r <;> rfl
theorem z_enter {m : MethodId} {n : Nat} {vs : List Value} {l : List (Nat × Value)} (h1 : (lg_sl vs).length ≤ n) (h2 : lv_args 0 vs = l) : ∃ ls, entryFrame m vs.toArray n = F0 m 0 ls [] ∧ lv_has ls n l :=
  ⟨_, lg_entry_eq m vs n, by rw [← h2]; exact lv_entry vs h1⟩
theorem z_in {ws : List Cond} (ps : List Nat) (hp : ws = ps.filterMap (fun i => lw_tbl[i]?)) (h : ws.all zgood = true) : ∀ w ∈ ws, w ∈ zG := by
  intro w hw
  have h1 := List.all_eq_true.mp h w hw
  rw [hp] at hw
  obtain ⟨i, -, hi⟩ := List.mem_filterMap.mp hw
  exact z_g i hi h1

theorem zin_0 : ∀ w ∈ u_ws RJx4a65c TJx4a65c 3, w ∈ zG := z_in [95, 91, 93] (by decide +kernel) (by decide +kernel)
theorem vc_0 : vwCl[0]? = some (RJx4a65c, TJx4a65c, 3) := rfl
theorem zd_0 : ∀ j, j < 3 → defaultValue (tyJx4a65c j) = vp_V [.int 0, .null, .int 0] j := by decide +kernel
theorem zin_1 : ∀ w ∈ u_ws RX0 TX0 9, w ∈ zG := z_in [444, 446, 448, 450, 452, 454, 456, 458, 460] (by decide +kernel) (by decide +kernel)
theorem vc_1 : vwCl[1]? = some (RX0, TX0, 9) := rfl
theorem zd_1 : ∀ j, j < 9 → defaultValue (tyX0 j) = vp_V [.int 0, .int 0, .int 0, .int 0, .int 0, .null, .int 0, .int 0, .int 0] j := by decide +kernel
theorem zin_2 : ∀ w ∈ u_ws RX1 TX1 2, w ∈ zG := z_in [193, 195] (by decide +kernel) (by decide +kernel)
theorem vc_2 : vwCl[2]? = some (RX1, TX1, 2) := rfl
theorem zd_2 : ∀ j, j < 2 → defaultValue (tyX1 j) = vp_V [.null, .int 0] j := by decide +kernel
theorem zin_3 : ∀ w ∈ u_ws RX2 TX2 3, w ∈ zG := z_in [205, 207, 209] (by decide +kernel) (by decide +kernel)
theorem vc_3 : vwCl[3]? = some (RX2, TX2, 3) := rfl
theorem zd_3 : ∀ j, j < 3 → defaultValue (tyX2 j) = vp_V [.null, .null, .int 0] j := by decide +kernel
theorem zin_4 : ∀ w ∈ u_ws RX3 TX3 3, w ∈ zG := z_in [112, 114, 116] (by decide +kernel) (by decide +kernel)
theorem vc_4 : vwCl[4]? = some (RX3, TX3, 3) := rfl
theorem zd_4 : ∀ j, j < 3 → defaultValue (tyX3 j) = vp_V [.null, .int 0, .int 0] j := by decide +kernel
theorem zin_5 : ∀ w ∈ u_ws RX4 TX4 2, w ∈ zG := z_in [582, 584] (by decide +kernel) (by decide +kernel)
theorem vc_5 : vwCl[5]? = some (RX4, TX4, 2) := rfl
theorem zd_5 : ∀ j, j < 2 → defaultValue (tyX4 j) = vp_V [.null, .int 0] j := by decide +kernel
theorem zin_6 : ∀ w ∈ u_ws RX5 TX5 6, w ∈ zG := z_in [220, 222, 224, 226, 228, 230] (by decide +kernel) (by decide +kernel)
theorem vc_6 : vwCl[6]? = some (RX5, TX5, 6) := rfl
theorem zd_6 : ∀ j, j < 6 → defaultValue (tyX5 j) = vp_V [.null, .null, .null, .null, .null, .null] j := by decide +kernel
theorem zin_7 : ∀ w ∈ u_ws RX6 TX6 23, w ∈ zG := z_in [757, 759, 761, 763, 765, 767, 769, 771, 773, 775, 777, 779, 781, 783, 785, 787, 789, 791, 793, 795, 797, 799, 801] (by decide +kernel) (by decide +kernel)
theorem vc_7 : vwCl[7]? = some (RX6, TX6, 23) := rfl
theorem zd_7 : ∀ j, j < 23 → defaultValue (tyX6 j) = vp_V [.int 0, .null, .null, .null, .null, .null, .null, .null, .null, .int 0, .null, .null, .null, .null, .null, .null, .int 0, .null, .null, .null, .null, .null, .null] j := by decide +kernel
theorem zw13 : Cond.selects "SchemaSubjectsModel" ({ cls := "SchemaSubjectsModel", name := "errorOfField", desc := "(IIII)I" }) ({ cls := "SchemaSubjectsModel", name := "errorOfField", desc := "(IIII)I" }) ∈ zG := z_g 13 (by decide +kernel) (by decide +kernel)
theorem zw14 : Cond.selects "SchemaSubjectsModel" ({ cls := "SchemaSubjectsModel", name := "isRange", desc := "(IIII)Z" }) ({ cls := "SchemaSubjectsModel", name := "isRange", desc := "(IIII)Z" }) ∈ zG := z_g 14 (by decide +kernel) (by decide +kernel)
theorem zw15 : Cond.selects "SchemaSubjectsModel" ({ cls := "SchemaSubjectsModel", name := "isThereAt", desc := "(II)Z" }) ({ cls := "SchemaSubjectsModel", name := "isThereAt", desc := "(II)Z" }) ∈ zG := z_g 15 (by decide +kernel) (by decide +kernel)
theorem zw16 : Cond.selects "SchemaSubjectsModel" ({ cls := "SchemaSubjectsModel", name := "isVersion", desc := "(II)Z" }) ({ cls := "SchemaSubjectsModel", name := "isVersion", desc := "(II)Z" }) ∈ zG := z_g 16 (by decide +kernel) (by decide +kernel)
theorem zw17 : Cond.selects "SchemaSubjectsModel" ({ cls := "SchemaSubjectsModel", name := "schemaOf", desc := "(I)I" }) ({ cls := "SchemaSubjectsModel", name := "schemaOf", desc := "(I)I" }) ∈ zG := z_g 17 (by decide +kernel) (by decide +kernel)
theorem zw18 : Cond.selects "SchemaSubjectsModel" ({ cls := "SchemaSubjectsModel", name := "named", desc := "(II)I" }) ({ cls := "SchemaSubjectsModel", name := "named", desc := "(II)I" }) ∈ zG := z_g 18 (by decide +kernel) (by decide +kernel)
theorem zw19 : Cond.selects "SchemaSubjectsModel" ({ cls := "SchemaSubjectsModel", name := "holds", desc := "(I)Z" }) ({ cls := "SchemaSubjectsModel", name := "holds", desc := "(I)Z" }) ∈ zG := z_g 19 (by decide +kernel) (by decide +kernel)
theorem zw20 : Cond.selects "SchemaSubjectsModel" ({ cls := "SchemaSubjectsModel", name := "isValue", desc := "(II)Z" }) ({ cls := "SchemaSubjectsModel", name := "isValue", desc := "(II)Z" }) ∈ zG := z_g 20 (by decide +kernel) (by decide +kernel)
theorem zw52 : (Jvm.Cond.initialized "SchemaSubjects$Row") ∈ zG := z_g 52 (by decide +kernel) (by decide +kernel)
theorem zw53 : (Jvm.Cond.initialized "SchemaSubjectsModel") ∈ zG := z_g 53 (by decide +kernel) (by decide +kernel)
theorem zw191 : (Jvm.Cond.fieldLink "SchemaSubjects$Row" (9 : Nat) "SchemaSubjects$Row" "numbers" "[I") ∈ zG := z_g 191 (by decide +kernel) (by decide +kernel)
theorem zw192 : (Jvm.Cond.fieldLink "SchemaSubjects$Row" (15 : Nat) "SchemaSubjects$Row" "used" "I") ∈ zG := z_g 192 (by decide +kernel) (by decide +kernel)
theorem zw258 : (Jvm.Cond.instanceMethod ({ cls := "SchemaSubjects$Row", name := "count", desc := "()I" } : Jvm.MethodName)) ∈ zG := z_g 258 (by decide +kernel) (by decide +kernel)
theorem zw259 : (Jvm.Cond.selects "SchemaSubjects$Row" ({ cls := "SchemaSubjects$Row", name := "count", desc := "()I" } : Jvm.MethodName) ({ cls := "SchemaSubjects$Row", name := "count", desc := "()I" } : Jvm.MethodName)) ∈ zG := z_g 259 (by decide +kernel) (by decide +kernel)
theorem zw260 : (Jvm.Cond.code ({ cls := "SchemaSubjects$Row", name := "count", desc := "()I" } : Jvm.MethodName) prog_3_method_2_code (1 : Nat) (Option.some Jvm.ClassFile.FieldType.int)) ∈ zG := z_g 260 (by decide +kernel) (by decide +kernel)
theorem zw470 : (Jvm.Cond.instanceMethod ({ cls := "SchemaSubjects$Row", name := "add", desc := "(I)V" } : Jvm.MethodName)) ∈ zG := z_g 470 (by decide +kernel) (by decide +kernel)
theorem zw471 : (Jvm.Cond.selects "SchemaSubjects$Row" ({ cls := "SchemaSubjects$Row", name := "add", desc := "(I)V" } : Jvm.MethodName) ({ cls := "SchemaSubjects$Row", name := "add", desc := "(I)V" } : Jvm.MethodName)) ∈ zG := z_g 471 (by decide +kernel) (by decide +kernel)
theorem zw472 : (Jvm.Cond.code ({ cls := "SchemaSubjects$Row", name := "add", desc := "(I)V" } : Jvm.MethodName) prog_3_method_4_code (2 : Nat) (Option.none : Option Jvm.ClassFile.FieldType)) ∈ zG := z_g 472 (by decide +kernel) (by decide +kernel)
theorem zw477 : (Jvm.Cond.methodLink "SchemaSubjects$Row" (19 : Nat) ({ cls := "SchemaSubjects$Row", name := "count", desc := "()I" } : Jvm.MethodName)) ∈ zG := z_g 477 (by decide +kernel) (by decide +kernel)
theorem zw478 : (Jvm.Cond.methodLink "SchemaSubjects$Row" (23 : Nat) ({ cls := "SchemaSubjects$Row", name := "at", desc := "(I)I" } : Jvm.MethodName)) ∈ zG := z_g 478 (by decide +kernel) (by decide +kernel)
theorem zw479 : (Jvm.Cond.instanceMethod ({ cls := "SchemaSubjects$Row", name := "at", desc := "(I)I" } : Jvm.MethodName)) ∈ zG := z_g 479 (by decide +kernel) (by decide +kernel)
theorem zw480 : (Jvm.Cond.selects "SchemaSubjects$Row" ({ cls := "SchemaSubjects$Row", name := "at", desc := "(I)I" } : Jvm.MethodName) ({ cls := "SchemaSubjects$Row", name := "at", desc := "(I)I" } : Jvm.MethodName)) ∈ zG := z_g 480 (by decide +kernel) (by decide +kernel)
theorem zw481 : (Jvm.Cond.code ({ cls := "SchemaSubjects$Row", name := "at", desc := "(I)I" } : Jvm.MethodName) prog_3_method_3_code (2 : Nat) (Option.some Jvm.ClassFile.FieldType.int)) ∈ zG := z_g 481 (by decide +kernel) (by decide +kernel)
theorem zw482 : (Jvm.Cond.methodLink "SchemaSubjects$Row" (27 : Nat) ({ cls := "SchemaSubjects$Row", name := "add", desc := "(I)V" } : Jvm.MethodName)) ∈ zG := z_g 482 (by decide +kernel) (by decide +kernel)
theorem zw734 : (Jvm.Cond.fieldLink "SchemaSubjectsModel" (71 : Nat) "SchemaSubjectsModel" "thrown" "I") ∈ zG := z_g 734 (by decide +kernel) (by decide +kernel)
theorem zw735 : (Jvm.Cond.fieldLink "SchemaSubjectsModel" (7 : Nat) "SchemaSubjectsModel" "names" "[I") ∈ zG := z_g 735 (by decide +kernel) (by decide +kernel)
theorem zw736 : (Jvm.Cond.fieldLink "SchemaSubjectsModel" (13 : Nat) "SchemaSubjectsModel" "types" "[I") ∈ zG := z_g 736 (by decide +kernel) (by decide +kernel)
theorem zw737 : (Jvm.Cond.fieldLink "SchemaSubjectsModel" (16 : Nat) "SchemaSubjectsModel" "details" "[I") ∈ zG := z_g 737 (by decide +kernel) (by decide +kernel)
theorem zw738 : (Jvm.Cond.fieldLink "SchemaSubjectsModel" (19 : Nat) "SchemaSubjectsModel" "aliases" "[I") ∈ zG := z_g 738 (by decide +kernel) (by decide +kernel)
theorem zw739 : (Jvm.Cond.fieldLink "SchemaSubjectsModel" (22 : Nat) "SchemaSubjectsModel" "haveDefaults" "[Z") ∈ zG := z_g 739 (by decide +kernel) (by decide +kernel)
theorem zw740 : (Jvm.Cond.fieldLink "SchemaSubjectsModel" (26 : Nat) "SchemaSubjectsModel" "defaults" "[I") ∈ zG := z_g 740 (by decide +kernel) (by decide +kernel)
theorem zw741 : (Jvm.Cond.fieldLink "SchemaSubjectsModel" (29 : Nat) "SchemaSubjectsModel" "sizes" "[I") ∈ zG := z_g 741 (by decide +kernel) (by decide +kernel)
theorem zw742 : (Jvm.Cond.fieldLink "SchemaSubjectsModel" (32 : Nat) "SchemaSubjectsModel" "lengths" "[I") ∈ zG := z_g 742 (by decide +kernel) (by decide +kernel)
theorem zw745 : (Jvm.Cond.fieldLink "SchemaSubjectsModel" (38 : Nat) "SchemaSubjectsModel" "numbers" "[I") ∈ zG := z_g 745 (by decide +kernel) (by decide +kernel)
theorem zw746 : (Jvm.Cond.fieldLink "SchemaSubjectsModel" (41 : Nat) "SchemaSubjectsModel" "states" "[I") ∈ zG := z_g 746 (by decide +kernel) (by decide +kernel)
theorem zw747 : (Jvm.Cond.fieldLink "SchemaSubjectsModel" (44 : Nat) "SchemaSubjectsModel" "counts" "[I") ∈ zG := z_g 747 (by decide +kernel) (by decide +kernel)
theorem zw813 : (Jvm.Cond.methodLink "SchemaSubjectsModel" (98 : Nat) ({ cls := "SchemaSubjectsModel", name := "errorOfField", desc := "(IIII)I" } : Jvm.MethodName)) ∈ zG := z_g 813 (by decide +kernel) (by decide +kernel)
theorem zw815 : (Jvm.Cond.instanceMethod ({ cls := "SchemaSubjectsModel", name := "errorOfField", desc := "(IIII)I" } : Jvm.MethodName)) ∈ zG := z_g 815 (by decide +kernel) (by decide +kernel)
theorem zw816 : (Jvm.Cond.code ({ cls := "SchemaSubjectsModel", name := "errorOfField", desc := "(IIII)I" } : Jvm.MethodName) prog_8_method_11_code (7 : Nat) (Option.some Jvm.ClassFile.FieldType.int)) ∈ zG := z_g 816 (by decide +kernel) (by decide +kernel)
theorem zw817 : (Jvm.Cond.methodLink "SchemaSubjectsModel" (83 : Nat) ({ cls := "SchemaSubjectsModel", name := "isRange", desc := "(IIII)Z" } : Jvm.MethodName)) ∈ zG := z_g 817 (by decide +kernel) (by decide +kernel)
theorem zw819 : (Jvm.Cond.instanceMethod ({ cls := "SchemaSubjectsModel", name := "isRange", desc := "(IIII)Z" } : Jvm.MethodName)) ∈ zG := z_g 819 (by decide +kernel) (by decide +kernel)
theorem zw820 : (Jvm.Cond.code ({ cls := "SchemaSubjectsModel", name := "isRange", desc := "(IIII)Z" } : Jvm.MethodName) prog_8_method_9_code (6 : Nat) (Option.some Jvm.ClassFile.FieldType.boolean)) ∈ zG := z_g 820 (by decide +kernel) (by decide +kernel)
theorem zw821 : (Jvm.Cond.methodLink "SchemaSubjectsModel" (75 : Nat) ({ cls := "SchemaSubjectsModel", name := "in", desc := "(III)Z" } : Jvm.MethodName)) ∈ zG := z_g 821 (by decide +kernel) (by decide +kernel)
theorem zw822 : (Jvm.Cond.static ({ cls := "SchemaSubjectsModel", name := "in", desc := "(III)Z" } : Jvm.MethodName)) ∈ zG := z_g 822 (by decide +kernel) (by decide +kernel)
theorem zw823 : (Jvm.Cond.code ({ cls := "SchemaSubjectsModel", name := "in", desc := "(III)Z" } : Jvm.MethodName) prog_8_method_4_code (3 : Nat) (Option.some Jvm.ClassFile.FieldType.boolean)) ∈ zG := z_g 823 (by decide +kernel) (by decide +kernel)
theorem zw824 : (Jvm.Cond.methodLink "SchemaSubjectsModel" (87 : Nat) ({ cls := "SchemaSubjectsModel", name := "isThereAt", desc := "(II)Z" } : Jvm.MethodName)) ∈ zG := z_g 824 (by decide +kernel) (by decide +kernel)
theorem zw826 : (Jvm.Cond.instanceMethod ({ cls := "SchemaSubjectsModel", name := "isThereAt", desc := "(II)Z" } : Jvm.MethodName)) ∈ zG := z_g 826 (by decide +kernel) (by decide +kernel)
theorem zw827 : (Jvm.Cond.code ({ cls := "SchemaSubjectsModel", name := "isThereAt", desc := "(II)Z" } : Jvm.MethodName) prog_8_method_7_code (3 : Nat) (Option.some Jvm.ClassFile.FieldType.boolean)) ∈ zG := z_g 827 (by decide +kernel) (by decide +kernel)
theorem zw828 : (Jvm.Cond.methodLink "SchemaSubjectsModel" (79 : Nat) ({ cls := "SchemaSubjectsModel", name := "isVersion", desc := "(II)Z" } : Jvm.MethodName)) ∈ zG := z_g 828 (by decide +kernel) (by decide +kernel)
theorem zw830 : (Jvm.Cond.instanceMethod ({ cls := "SchemaSubjectsModel", name := "isVersion", desc := "(II)Z" } : Jvm.MethodName)) ∈ zG := z_g 830 (by decide +kernel) (by decide +kernel)
theorem zw831 : (Jvm.Cond.code ({ cls := "SchemaSubjectsModel", name := "isVersion", desc := "(II)Z" } : Jvm.MethodName) prog_8_method_6_code (3 : Nat) (Option.some Jvm.ClassFile.FieldType.boolean)) ∈ zG := z_g 831 (by decide +kernel) (by decide +kernel)
theorem zw832 : (Jvm.Cond.methodLink "SchemaSubjectsModel" (90 : Nat) ({ cls := "SchemaSubjectsModel", name := "schemaOf", desc := "(I)I" } : Jvm.MethodName)) ∈ zG := z_g 832 (by decide +kernel) (by decide +kernel)
theorem zw834 : (Jvm.Cond.instanceMethod ({ cls := "SchemaSubjectsModel", name := "schemaOf", desc := "(I)I" } : Jvm.MethodName)) ∈ zG := z_g 834 (by decide +kernel) (by decide +kernel)
theorem zw835 : (Jvm.Cond.code ({ cls := "SchemaSubjectsModel", name := "schemaOf", desc := "(I)I" } : Jvm.MethodName) prog_8_method_8_code (2 : Nat) (Option.some Jvm.ClassFile.FieldType.int)) ∈ zG := z_g 835 (by decide +kernel) (by decide +kernel)
theorem zw836 : (Jvm.Cond.methodLink "SchemaSubjectsModel" (94 : Nat) ({ cls := "SchemaSubjectsModel", name := "named", desc := "(II)I" } : Jvm.MethodName)) ∈ zG := z_g 836 (by decide +kernel) (by decide +kernel)
theorem zw838 : (Jvm.Cond.instanceMethod ({ cls := "SchemaSubjectsModel", name := "named", desc := "(II)I" } : Jvm.MethodName)) ∈ zG := z_g 838 (by decide +kernel) (by decide +kernel)
theorem zw839 : (Jvm.Cond.code ({ cls := "SchemaSubjectsModel", name := "named", desc := "(II)I" } : Jvm.MethodName) prog_8_method_10_code (4 : Nat) (Option.some Jvm.ClassFile.FieldType.int)) ∈ zG := z_g 839 (by decide +kernel) (by decide +kernel)
theorem zw840 : (Jvm.Cond.methodLink "SchemaSubjectsModel" (102 : Nat) ({ cls := "SchemaSubjectsModel", name := "holds", desc := "(I)Z" } : Jvm.MethodName)) ∈ zG := z_g 840 (by decide +kernel) (by decide +kernel)
theorem zw842 : (Jvm.Cond.instanceMethod ({ cls := "SchemaSubjectsModel", name := "holds", desc := "(I)Z" } : Jvm.MethodName)) ∈ zG := z_g 842 (by decide +kernel) (by decide +kernel)
theorem zw843 : (Jvm.Cond.code ({ cls := "SchemaSubjectsModel", name := "holds", desc := "(I)Z" } : Jvm.MethodName) prog_8_method_3_code (2 : Nat) (Option.some Jvm.ClassFile.FieldType.boolean)) ∈ zG := z_g 843 (by decide +kernel) (by decide +kernel)
theorem zw848 : (Jvm.Cond.methodLink "SchemaSubjectsModel" (106 : Nat) ({ cls := "SchemaSubjectsModel", name := "isValue", desc := "(II)Z" } : Jvm.MethodName)) ∈ zG := z_g 848 (by decide +kernel) (by decide +kernel)
theorem zw850 : (Jvm.Cond.instanceMethod ({ cls := "SchemaSubjectsModel", name := "isValue", desc := "(II)Z" } : Jvm.MethodName)) ∈ zG := z_g 850 (by decide +kernel) (by decide +kernel)
theorem zw851 : (Jvm.Cond.code ({ cls := "SchemaSubjectsModel", name := "isValue", desc := "(II)Z" } : Jvm.MethodName) prog_8_method_13_code (4 : Nat) (Option.some Jvm.ClassFile.FieldType.boolean)) ∈ zG := z_g 851 (by decide +kernel) (by decide +kernel)
theorem zw1001 : (Jvm.Cond.castable "SchemaSubjects" "java/lang/Object") ∈ zG := z_g 1001 (by decide +kernel) (by decide +kernel)
theorem zw1002 : (Jvm.Cond.castable "java/util/ArrayList" "java/lang/Object") ∈ zG := z_g 1002 (by decide +kernel) (by decide +kernel)
theorem zw1003 : (Jvm.Cond.castable "SchemaSubjects$Subject" "java/lang/Object") ∈ zG := z_g 1003 (by decide +kernel) (by decide +kernel)
theorem zw1004 : (Jvm.Cond.castable "SchemaSubjects$Schema" "java/lang/Object") ∈ zG := z_g 1004 (by decide +kernel) (by decide +kernel)
theorem zw1005 : (Jvm.Cond.castable "SchemaSubjects$Row" "java/lang/Object") ∈ zG := z_g 1005 (by decide +kernel) (by decide +kernel)
theorem zw1006 : (Jvm.Cond.castable "SchemaSubjectsModel" "java/lang/Object") ∈ zG := z_g 1006 (by decide +kernel) (by decide +kernel)
theorem zw1010 : (Jvm.Cond.castable "SchemaSubjects$Field" "java/lang/Object") ∈ zG := z_g 1010 (by decide +kernel) (by decide +kernel)
theorem zw1011 : (Jvm.Cond.castable "SchemaSubjects$Version" "java/lang/Object") ∈ zG := z_g 1011 (by decide +kernel) (by decide +kernel)
theorem zcast : zCast := by
  intro k q hq
  match k, hq with
  | 0, hq => cases hq; exact zw1002
  | 1, hq => cases hq; exact zw1010
  | 2, hq => cases hq; exact zw1005
  | 3, hq => cases hq; exact zw1004
  | 4, hq => cases hq; exact zw1003
  | 5, hq => cases hq; exact zw1011
  | 6, hq => cases hq; exact zw1001
  | 7, hq => cases hq; exact zw1006
  | k + 8, hq => simp [vwCl] at hq
theorem fl_X1_15 : zFl "SchemaSubjects$Row" 15 2 1 RX1 TX1 2 tyX1 := ⟨rfl, zin_2, tyX1_ok, nmX1, by decide, "SchemaSubjects$Row", zw192, Or.inl rfl⟩
theorem fl_X1_9 : zFl "SchemaSubjects$Row" 9 2 0 RX1 TX1 2 tyX1 := ⟨rfl, zin_2, tyX1_ok, nmX1, by decide, "SchemaSubjects$Row", zw191, Or.inl rfl⟩
theorem kv_X1_19 : zCv "SchemaSubjects$Row" 19 "SchemaSubjects$Row" yX1_count cX1_count 1 (some .int) 0 := ⟨⟨zw477, zw258, zw259, zw52, zw260⟩, rfl, by decide, by decide, by decide +kernel⟩
theorem kv_X1_23 : zCv "SchemaSubjects$Row" 23 "SchemaSubjects$Row" yX1_at cX1_at 2 (some .int) 1 := ⟨⟨zw478, zw479, zw480, zw52, zw481⟩, rfl, by decide, by decide, by decide +kernel⟩
theorem kv_X1_27 : zCv "SchemaSubjects$Row" 27 "SchemaSubjects$Row" yX1_add cX1_add 2 none 1 := ⟨⟨zw482, zw470, zw471, zw52, zw472⟩, rfl, by decide, by decide, by decide +kernel⟩
theorem fl_X6_71 : zFl "SchemaSubjectsModel" 71 7 0 RX6 TX6 23 tyX6 := ⟨rfl, zin_7, tyX6_ok, nmX6, by decide, "SchemaSubjectsModel", zw734, Or.inl rfl⟩
theorem ks_X6_75 : zCs "SchemaSubjectsModel" 75 yX6_in cX6_in 3 (some .boolean) 3 := ⟨⟨zw821, zw822, zw53, zw823⟩, by decide, by decide, by decide +kernel⟩
theorem fl_X6_44 : zFl "SchemaSubjectsModel" 44 7 13 RX6 TX6 23 tyX6 := ⟨rfl, zin_7, tyX6_ok, nmX6, by decide, "SchemaSubjectsModel", zw747, Or.inl rfl⟩
theorem fl_X6_41 : zFl "SchemaSubjectsModel" 41 7 12 RX6 TX6 23 tyX6 := ⟨rfl, zin_7, tyX6_ok, nmX6, by decide, "SchemaSubjectsModel", zw746, Or.inl rfl⟩
theorem kv_X6_79 : zCv "SchemaSubjectsModel" 79 "SchemaSubjectsModel" yX6_isVersion cX6_isVersion 3 (some .boolean) 2 := ⟨⟨zw828, zw830, zw16, zw53, zw831⟩, rfl, by decide, by decide, by decide +kernel⟩
theorem fl_X6_38 : zFl "SchemaSubjectsModel" 38 7 11 RX6 TX6 23 tyX6 := ⟨rfl, zin_7, tyX6_ok, nmX6, by decide, "SchemaSubjectsModel", zw745, Or.inl rfl⟩
theorem fl_X6_29 : zFl "SchemaSubjectsModel" 29 7 7 RX6 TX6 23 tyX6 := ⟨rfl, zin_7, tyX6_ok, nmX6, by decide, "SchemaSubjectsModel", zw741, Or.inl rfl⟩
theorem fl_X6_7 : zFl "SchemaSubjectsModel" 7 7 1 RX6 TX6 23 tyX6 := ⟨rfl, zin_7, tyX6_ok, nmX6, by decide, "SchemaSubjectsModel", zw735, Or.inl rfl⟩
theorem fl_X6_32 : zFl "SchemaSubjectsModel" 32 7 8 RX6 TX6 23 tyX6 := ⟨rfl, zin_7, tyX6_ok, nmX6, by decide, "SchemaSubjectsModel", zw742, Or.inl rfl⟩
theorem kv_X6_94 : zCv "SchemaSubjectsModel" 94 "SchemaSubjectsModel" yX6_named cX6_named 4 (some .int) 2 := ⟨⟨zw836, zw838, zw18, zw53, zw839⟩, rfl, by decide, by decide, by decide +kernel⟩
theorem kv_X6_90 : zCv "SchemaSubjectsModel" 90 "SchemaSubjectsModel" yX6_schemaOf cX6_schemaOf 2 (some .int) 1 := ⟨⟨zw832, zw834, zw17, zw53, zw835⟩, rfl, by decide, by decide, by decide +kernel⟩
theorem kv_X6_87 : zCv "SchemaSubjectsModel" 87 "SchemaSubjectsModel" yX6_isThereAt cX6_isThereAt 3 (some .boolean) 2 := ⟨⟨zw824, zw826, zw15, zw53, zw827⟩, rfl, by decide, by decide, by decide +kernel⟩
theorem kv_X6_83 : zCv "SchemaSubjectsModel" 83 "SchemaSubjectsModel" yX6_isRange cX6_isRange 6 (some .boolean) 4 := ⟨⟨zw817, zw819, zw14, zw53, zw820⟩, rfl, by decide, by decide, by decide +kernel⟩
theorem fl_X6_13 : zFl "SchemaSubjectsModel" 13 7 2 RX6 TX6 23 tyX6 := ⟨rfl, zin_7, tyX6_ok, nmX6, by decide, "SchemaSubjectsModel", zw736, Or.inl rfl⟩
theorem fl_X6_16 : zFl "SchemaSubjectsModel" 16 7 3 RX6 TX6 23 tyX6 := ⟨rfl, zin_7, tyX6_ok, nmX6, by decide, "SchemaSubjectsModel", zw737, Or.inl rfl⟩
theorem fl_X6_19 : zFl "SchemaSubjectsModel" 19 7 4 RX6 TX6 23 tyX6 := ⟨rfl, zin_7, tyX6_ok, nmX6, by decide, "SchemaSubjectsModel", zw738, Or.inl rfl⟩
theorem fl_X6_22 : zFl "SchemaSubjectsModel" 22 7 5 RX6 TX6 23 tyX6 := ⟨rfl, zin_7, tyX6_ok, nmX6, by decide, "SchemaSubjectsModel", zw739, Or.inl rfl⟩
theorem fl_X6_26 : zFl "SchemaSubjectsModel" 26 7 6 RX6 TX6 23 tyX6 := ⟨rfl, zin_7, tyX6_ok, nmX6, by decide, "SchemaSubjectsModel", zw740, Or.inl rfl⟩
theorem kv_X6_98 : zCv "SchemaSubjectsModel" 98 "SchemaSubjectsModel" yX6_errorOfField cX6_errorOfField 7 (some .int) 4 := ⟨⟨zw813, zw815, zw13, zw53, zw816⟩, rfl, by decide, by decide, by decide +kernel⟩
theorem kv_X6_102 : zCv "SchemaSubjectsModel" 102 "SchemaSubjectsModel" yX6_holds cX6_holds 2 (some .boolean) 1 := ⟨⟨zw840, zw842, zw19, zw53, zw843⟩, rfl, by decide, by decide, by decide +kernel⟩
theorem kv_X6_106 : zCv "SchemaSubjectsModel" 106 "SchemaSubjectsModel" yX6_isValue cX6_isValue 4 (some .boolean) 2 := ⟨⟨zw848, zw850, zw20, zw53, zw851⟩, rfl, by decide, by decide, by decide +kernel⟩
end
section
def w_X1_count (o : Nat) (M : zM) (P : Int32 → zM → Prop) : Prop := zGi M o 2 1 (fun v1 => P v1 M)
def w_X1_add (o : Nat) (p0 : Int32) (M : zM) (P : zM → Prop) : Prop := zGi M o 2 1 (fun v1 => ((v1 < (0 : Int32) → P M) ∧ (¬ v1 < (0 : Int32) → zGi M o 2 1 (fun v2 => zGr M o 2 0 (fun v3 => zLn M v3 (fun v4 => ((v4 ≤ v2 → P M) ∧ (¬ v4 ≤ v2 → zGr M o 2 0 (fun v5 => zGi M o 2 1 (fun v6 => zSi M v5 v6 p0 (fun M7 => zGi M7 o 2 1 (fun v8 => zPu M7 o 2 1 (.int (v8 + (1 : Int32))) (fun M9 => P M9)))))))))))))
def w_X1_at_21 (o : Nat) (p0 : Int32) (P : Int32 → zM → Prop) : zM → Prop := fun M => P (0 : Int32) M
def w_X1_at (o : Nat) (p0 : Int32) (M : zM) (P : Int32 → zM → Prop) : Prop := ((p0 < (0 : Int32) → (w_X1_at_21 o p0 P M)) ∧ (¬ p0 < (0 : Int32) → zGi M o 2 1 (fun v1 => ((v1 ≤ p0 → (w_X1_at_21 o p0 P M)) ∧ (¬ v1 ≤ p0 → zGr M o 2 0 (fun v2 => zLn M v2 (fun v3 => ((p0 < v3 → zGr M o 2 0 (fun v4 => zAi M 0 v4 p0 (fun v5 => P v5 M))) ∧ (¬ p0 < v3 → (w_X1_at_21 o p0 P M))))))))))
def w_X1_addAll_2 (o : Nat) (p0 : Nat) (P : zM → Prop) : Nat → Int32 → zM → Prop
  | 0 => fun _ _ => False
  | n + 1 => fun x2 M => (zIs M p0 2 ∧ w_X1_count p0 M (fun v2 M1 => ((v2 ≤ x2 → P M1) ∧ (¬ v2 ≤ x2 → (zIs M1 p0 2 ∧ w_X1_at p0 x2 M1 (fun v4 M3 => (zIs M3 o 2 ∧ w_X1_add o v4 M3 (fun M5 => (w_X1_addAll_2 o p0 P n (x2 + 1) M5)))))))))
def w_X1_addAll (o : Nat) (p0 : Nat) (M : zM) (P : zM → Prop) : Prop := (∃ nn, w_X1_addAll_2 o p0 P nn (0 : Int32) M)
def w_X1_empty (o : Nat) (M : zM) (P : zM → Prop) : Prop := zPu M o 2 1 (.int (0 : Int32)) (fun M1 => P M1)
def w_X6_thrown (o : Nat) (M : zM) (P : Int32 → zM → Prop) : Prop := zGi M o 7 0 (fun v1 => P v1 M)
def w_X6_holds (o : Nat) (p0 : Int32) (M : zM) (P : Int32 → zM → Prop) : Prop := zPu M o 7 0 (.int p0) (fun M1 => ((¬ p0 = (0 : Int32) → P (0 : Int32) M1) ∧ (p0 = (0 : Int32) → P (1 : Int32) M1)))
def w_X6_in (p0 : Int32) (p1 : Int32) (p2 : Int32) (M : zM) (P : Int32 → zM → Prop) : Prop := ((p0 < p1 → P (0 : Int32) M) ∧ (¬ p0 < p1 → ((p2 < p0 → P (0 : Int32) M) ∧ (¬ p2 < p0 → P (1 : Int32) M))))
def w_X6_isSubject (p0 : Int32) (M : zM) (P : Int32 → zM → Prop) : Prop := w_X6_in p0 (0 : Int32) (5 : Int32) M (fun v2 M1 => P v2 M1)
def w_X6_isVersion (o : Nat) (p0 : Int32) (p1 : Int32) (M : zM) (P : Int32 → zM → Prop) : Prop := zGr M o 7 13 (fun v1 => zAi M 0 v1 p0 (fun v2 => w_X6_in p1 (0 : Int32) (v2 - (1 : Int32)) M (fun v4 M3 => ((v4 = (0 : Int32) → P (0 : Int32) M3) ∧ (¬ v4 = (0 : Int32) → zGr M3 o 7 12 (fun v5 => zAi M3 0 v5 (((6 : Int32) * p0) + p1) (fun v6 => ((v6 = (3 : Int32) → P (0 : Int32) M3) ∧ (¬ v6 = (3 : Int32) → P (1 : Int32) M3)))))))))
def w_X6_isThereAt (o : Nat) (p0 : Int32) (p1 : Int32) (M : zM) (P : Int32 → zM → Prop) : Prop := (zIs M o 7 ∧ w_X6_isVersion o p0 p1 M (fun v2 M1 => ((v2 = (0 : Int32) → P (0 : Int32) M1) ∧ (¬ v2 = (0 : Int32) → zGr M1 o 7 12 (fun v3 => zAi M1 0 v3 (((6 : Int32) * p0) + p1) (fun v4 => ((¬ v4 = (1 : Int32) → P (0 : Int32) M1) ∧ (v4 = (1 : Int32) → P (1 : Int32) M1))))))))
def w_X6_schemaOf (o : Nat) (p0 : Int32) (M : zM) (P : Int32 → zM → Prop) : Prop := zGr M o 7 11 (fun v1 => zAi M 0 v1 (((6 : Int32) * (p0 / (10 : Int32))) + (p0 - p0 / (10 : Int32) * (10 : Int32))) (fun v2 => P v2 M))
def w_X6_isRange_19 (o : Nat) (p0 : Int32) (p1 : Int32) (p2 : Int32) (p3 : Int32) (P : Int32 → zM → Prop) : Int32 → zM → Prop := fun y0 M => w_X6_in p0 (0 : Int32) (9 : Int32) M (fun v2 M1 => ((v2 = (0 : Int32) → P (0 : Int32) M1) ∧ (¬ v2 = (0 : Int32) → w_X6_in p1 (0 : Int32) (4 : Int32) M1 (fun v4 M3 => ((v4 = (0 : Int32) → P (0 : Int32) M3) ∧ (¬ v4 = (0 : Int32) → ((y0 = (0 : Int32) → P (0 : Int32) M3) ∧ (¬ y0 = (0 : Int32) → w_X6_in p3 (-1 : Int32) (9 : Int32) M3 (fun v6 M5 => ((v6 = (0 : Int32) → P (0 : Int32) M5) ∧ (¬ v6 = (0 : Int32) → ((p3 = p0 → P (0 : Int32) M5) ∧ (¬ p3 = p0 → P (1 : Int32) M5)))))))))))))
def w_X6_isRange_14 (o : Nat) (p0 : Int32) (p1 : Int32) (p2 : Int32) (p3 : Int32) (P : Int32 → zM → Prop) : zM → Prop := fun M => (w_X6_isRange_19 o p0 p1 p2 p3 P (1 : Int32) M)
def w_X6_isRange (o : Nat) (p0 : Int32) (p1 : Int32) (p2 : Int32) (p3 : Int32) (M : zM) (P : Int32 → zM → Prop) : Prop := ((¬ p1 = (3 : Int32) → (w_X6_isRange_14 o p0 p1 p2 p3 P M)) ∧ (p1 = (3 : Int32) → w_X6_in p2 (1 : Int32) (4 : Int32) M (fun v8 M7 => ((v8 = (0 : Int32) → (w_X6_isRange_19 o p0 p1 p2 p3 P (0 : Int32) M7)) ∧ (¬ v8 = (0 : Int32) → (w_X6_isRange_14 o p0 p1 p2 p3 P M7))))))
def w_X6_named_2 (o : Nat) (p0 : Int32) (p1 : Int32) (P : Int32 → zM → Prop) : Nat → Int32 → zM → Prop
  | 0 => fun _ _ => False
  | n + 1 => fun x3 M => zGr M o 7 7 (fun v1 => zAi M 0 v1 p0 (fun v2 => ((v2 ≤ x3 → P (-1 : Int32) M) ∧ (¬ v2 ≤ x3 → zGr M o 7 1 (fun v3 => zAi M 0 v3 (((5 : Int32) * p0) + x3) (fun v4 => ((¬ v4 = p1 → (w_X6_named_2 o p0 p1 P n (x3 + 1) M)) ∧ (v4 = p1 → P x3 M))))))))
def w_X6_named (o : Nat) (p0 : Int32) (p1 : Int32) (M : zM) (P : Int32 → zM → Prop) : Prop := (∃ nn, w_X6_named_2 o p0 p1 P nn (0 : Int32) M)
def w_X6_errorOfField_116 (o : Nat) (p0 : Int32) (p1 : Int32) (p2 : Int32) (p3 : Int32) (P : Int32 → zM → Prop) : zM → Prop := fun M => P (3 : Int32) M
def w_X6_errorOfField_77 (o : Nat) (p0 : Int32) (p1 : Int32) (p2 : Int32) (p3 : Int32) (P : Int32 → zM → Prop) : Int32 → zM → Prop := fun y0 M => zGr M o 7 7 (fun v1 => zAi M 0 v1 (36 : Int32) (fun v2 => ((v2 = (5 : Int32) → (w_X6_errorOfField_116 o p0 p1 p2 p3 P M)) ∧ (¬ v2 = (5 : Int32) → (zIs M o 7 ∧ w_X6_named o (36 : Int32) p0 M (fun v4 M3 => ((¬ v4 = (-1 : Int32) → (w_X6_errorOfField_116 o p0 p1 p2 p3 P M3)) ∧ (v4 = (-1 : Int32) → zGr M3 o 7 8 (fun v5 => zAi M3 0 v5 (36 : Int32) (fun v6 => (((v6 + y0) ≤ (20 : Int32) → P (0 : Int32) M3) ∧ (¬ (v6 + y0) ≤ (20 : Int32) → (w_X6_errorOfField_116 o p0 p1 p2 p3 P M3)))))))))))))
def w_X6_errorOfField_58 (o : Nat) (p0 : Int32) (p1 : Int32) (p2 : Int32) (p3 : Int32) (P : Int32 → zM → Prop) : Int32 → zM → Prop := fun x5 M => ((x5 = (0 : Int32) → (w_X6_errorOfField_77 o p0 p1 p2 p3 P (1 : Int32) M)) ∧ (¬ x5 = (0 : Int32) → zGr M o 7 8 (fun v7 => (zIs M o 7 ∧ w_X6_schemaOf o p2 M (fun v9 M8 => zAi M8 0 v7 v9 (fun v10 => (w_X6_errorOfField_77 o p0 p1 p2 p3 P v10 M8)))))))
def w_X6_errorOfField_24 (o : Nat) (p0 : Int32) (p1 : Int32) (p2 : Int32) (p3 : Int32) (P : Int32 → zM → Prop) : Int32 → zM → Prop := fun y0 M => ((y0 = (0 : Int32) → (w_X6_errorOfField_58 o p0 p1 p2 p3 P y0 M)) ∧ (¬ y0 = (0 : Int32) → w_X6_in p2 (0 : Int32) (59 : Int32) M (fun v12 M11 => ((v12 = (0 : Int32) → P (2 : Int32) M11) ∧ (¬ v12 = (0 : Int32) → (zIs M11 o 7 ∧ w_X6_isThereAt o (p2 / (10 : Int32)) (p2 - p2 / (10 : Int32) * (10 : Int32)) M11 (fun v14 M13 => ((¬ v14 = (0 : Int32) → (w_X6_errorOfField_58 o p0 p1 p2 p3 P y0 M13)) ∧ (v14 = (0 : Int32) → P (2 : Int32) M13)))))))))
def w_X6_errorOfField (o : Nat) (p0 : Int32) (p1 : Int32) (p2 : Int32) (p3 : Int32) (M : zM) (P : Int32 → zM → Prop) : Prop := (zIs M o 7 ∧ w_X6_isRange o p0 p1 p2 p3 M (fun v16 M15 => ((¬ v16 = (0 : Int32) → ((¬ p1 = (4 : Int32) → (w_X6_errorOfField_24 o p0 p1 p2 p3 P (0 : Int32) M15)) ∧ (p1 = (4 : Int32) → (w_X6_errorOfField_24 o p0 p1 p2 p3 P (1 : Int32) M15)))) ∧ (v16 = (0 : Int32) → P (1 : Int32) M15))))
def w_X6_field_116 (o : Nat) (p0 : Int32) (p1 : Int32) (p2 : Int32) (p3 : Int32) (P : Int32 → zM → Prop) : Int32 → Int32 → Int32 → Nat → zM → Prop := fun y0 y1 y2 y3 M => zSi M y3 y2 (y1 + y0) (fun M1 => zGr M1 o 7 7 (fun v2 => zAi M1 0 v2 (36 : Int32) (fun v3 => zSi M1 v2 (36 : Int32) (v3 + (1 : Int32)) (fun M4 => zGr M4 o 7 7 (fun v5 => zAi M4 0 v5 (36 : Int32) (fun v6 => P v6 M4))))))
def w_X6_field_63 (o : Nat) (p0 : Int32) (p1 : Int32) (p2 : Int32) (p3 : Int32) (P : Int32 → zM → Prop) : Int32 → Int32 → Int32 → Nat → zM → Prop := fun x5 y0 y1 y2 M => zSi M y2 y1 y0 (fun M7 => zGr M7 o 7 4 (fun v8 => zSi M7 v8 x5 p3 (fun M9 => zGr M9 o 7 5 (fun v10 => zSz M9 v10 x5 (0 : Int32) (fun M11 => zGr M11 o 7 6 (fun v12 => zSi M11 v12 x5 (0 : Int32) (fun M13 => zGr M13 o 7 8 (fun v14 => zAi M13 0 v14 (36 : Int32) (fun v15 => ((¬ p1 = (4 : Int32) → (w_X6_field_116 o p0 p1 p2 p3 P (1 : Int32) v15 (36 : Int32) v14 M13)) ∧ (p1 = (4 : Int32) → zGr M13 o 7 8 (fun v16 => (zIs M13 o 7 ∧ w_X6_schemaOf o p2 M13 (fun v18 M17 => zAi M17 0 v16 v18 (fun v19 => (w_X6_field_116 o p0 p1 p2 p3 P v19 v15 (36 : Int32) v14 M17))))))))))))))))
def w_X6_field (o : Nat) (p0 : Int32) (p1 : Int32) (p2 : Int32) (p3 : Int32) (M : zM) (P : Int32 → zM → Prop) : Prop := (zIs M o 7 ∧ w_X6_errorOfField o p0 p1 p2 p3 M (fun v21 M20 => (zIs M20 o 7 ∧ w_X6_holds o v21 M20 (fun v23 M22 => ((¬ v23 = (0 : Int32) → zGr M22 o 7 7 (fun v24 => zAi M22 0 v24 (36 : Int32) (fun v25 => zGr M22 o 7 1 (fun v26 => zSi M22 v26 ((180 : Int32) + v25) p0 (fun M27 => zGr M27 o 7 2 (fun v28 => zSi M27 v28 ((180 : Int32) + v25) p1 (fun M29 => zGr M29 o 7 3 (fun v30 => ((p1 ≤ (2 : Int32) → (w_X6_field_63 o p0 p1 p2 p3 P ((180 : Int32) + v25) (0 : Int32) ((180 : Int32) + v25) v30 M29)) ∧ (¬ p1 ≤ (2 : Int32) → (w_X6_field_63 o p0 p1 p2 p3 P ((180 : Int32) + v25) p2 ((180 : Int32) + v25) v30 M29))))))))))) ∧ (v23 = (0 : Int32) → P (0 : Int32) M22))))))
def w_X6_isValue_37 (o : Nat) (p0 : Int32) (p1 : Int32) (P : Int32 → zM → Prop) : zM → Prop := fun M => P (1 : Int32) M
def w_X6_isValue_31 (o : Nat) (p0 : Int32) (p1 : Int32) (P : Int32 → zM → Prop) : Int32 → Int32 → Int32 → zM → Prop := fun y0 y1 y2 M => w_X6_in y2 y1 y0 M (fun v2 M1 => ((v2 = (0 : Int32) → P (0 : Int32) M1) ∧ (¬ v2 = (0 : Int32) → (w_X6_isValue_37 o p0 p1 P M1))))
def w_X6_isValue (o : Nat) (p0 : Int32) (p1 : Int32) (M : zM) (P : Int32 → zM → Prop) : Prop := zGr M o 7 2 (fun v3 => zAi M 0 v3 p0 (fun v4 => ((v4 < (2 : Int32) → (w_X6_isValue_37 o p0 p1 P M)) ∧ (¬ v4 < (2 : Int32) → ((¬ v4 = (2 : Int32) → zGr M o 7 3 (fun v5 => zAi M 0 v5 p0 (fun v6 => (w_X6_isValue_31 o p0 p1 P (v6 - (1 : Int32)) (0 : Int32) p1 M)))) ∧ (v4 = (2 : Int32) → (w_X6_isValue_31 o p0 p1 P (1 : Int32) (0 : Int32) p1 M)))))))
def w_X6_byDefault_53 (o : Nat) (p0 : Int32) (P : Int32 → zM → Prop) : Int32 → Int32 → Nat → zM → Prop := fun x2 y0 y1 M => (zIs M y1 7 ∧ w_X6_holds y1 y0 M (fun v2 M1 => ((¬ v2 = (0 : Int32) → zGr M1 o 7 5 (fun v3 => zSz M1 v3 x2 (1 : Int32) (fun M4 => zGr M4 o 7 6 (fun v5 => zSi M4 v5 x2 p0 (fun M6 => zGr M6 o 7 1 (fun v7 => zAi M6 0 v7 x2 (fun v8 => P v8 M6))))))) ∧ (v2 = (0 : Int32) → P (0 : Int32) M1))))
def w_X6_byDefault_35 (o : Nat) (p0 : Int32) (P : Int32 → zM → Prop) : Int32 → Nat → zM → Prop := fun x2 y0 M => (w_X6_byDefault_53 o p0 P x2 (1 : Int32) y0 M)
def w_X6_byDefault (o : Nat) (p0 : Int32) (M : zM) (P : Int32 → zM → Prop) : Prop := zGr M o 7 7 (fun v9 => zAi M 0 v9 (36 : Int32) (fun v10 => zGr M o 7 7 (fun v11 => zAi M 0 v11 (36 : Int32) (fun v12 => ((v12 = (0 : Int32) → (w_X6_byDefault_35 o p0 P (((180 : Int32) + v10) - (1 : Int32)) o M)) ∧ (¬ v12 = (0 : Int32) → zGr M o 7 2 (fun v13 => zAi M 0 v13 (((180 : Int32) + v10) - (1 : Int32)) (fun v14 => ((¬ v14 = (4 : Int32) → (zIs M o 7 ∧ w_X6_isValue o (((180 : Int32) + v10) - (1 : Int32)) p0 M (fun v16 M15 => ((v16 = (0 : Int32) → (w_X6_byDefault_53 o p0 P (((180 : Int32) + v10) - (1 : Int32)) (2 : Int32) o M15)) ∧ (¬ v16 = (0 : Int32) → (w_X6_byDefault_53 o p0 P (((180 : Int32) + v10) - (1 : Int32)) (0 : Int32) o M15)))))) ∧ (v14 = (4 : Int32) → (w_X6_byDefault_35 o p0 P (((180 : Int32) + v10) - (1 : Int32)) o M)))))))))))
def w_X6_empties (o : Nat) (M : zM) (P : zM → Prop) : Prop := zGr M o 7 7 (fun v1 => zSi M v1 (36 : Int32) (0 : Int32) (fun M2 => zGr M2 o 7 8 (fun v3 => zSi M2 v3 (36 : Int32) (0 : Int32) (fun M4 => P M4))))
end
section
set_option maxHeartbeats 4000000 in
set_option maxRecDepth 100000 in
theorem m_X1_count {X : zX} {l : Launch} (E : zEnv X l) {M : zM} {o : Nat} {P : Int32 → zM → Prop} {PX : Nat → zM → Prop} (hw : w_X1_count o M P) : zCT X l yX1_count cX1_count 1 (some .int) 0 0 0 0 M [.ref o] (zPi P) PX := by
  refine z_entry E (by decide) ?_
  intro p e s m args below meth c C hr htab I
  have hx := C.1.1
  have hb := C.1.2.1
  obtain ⟨ls, he, hl⟩ := z_enter (m := m) (n := 1) (vs := [.ref o]) (l := [(0, .ref o)]) (Nat.le_of_ble_eq_true rfl) rfl
  rw [he]
  clear he
  unfold w_X1_count at hw
  refine lv_aload_n hx hb dX1_count_0 rfl (lv_at hl 0 rfl) ?_
  refine z_geti C I fl_X1_15 hw dX1_count_1 (fun v1 hw => ?_)
  exact z_iret C I hr ⟨_, rfl, hw⟩ (Nat.le_of_ble_eq_true rfl) (Nat.le_of_ble_eq_true rfl) dX1_count_4
set_option maxHeartbeats 4000000 in
set_option maxRecDepth 100000 in
theorem m_X1_add {X : zX} {l : Launch} (E : zEnv X l) {M : zM} {o : Nat} {p0 : Int32} {P : zM → Prop} {PX : Nat → zM → Prop} (hw : w_X1_add o p0 M P) : zCT X l yX1_add cX1_add 2 none 0 0 0 0 M [.ref o, .int p0] (zPv P) PX := by
  refine z_entry E (by decide) ?_
  intro p e s m args below meth c C hr htab I
  have hx := C.1.1
  have hb := C.1.2.1
  obtain ⟨ls, he, hl⟩ := z_enter (m := m) (n := 2) (vs := [.ref o, .int p0]) (l := [(0, .ref o), (1, .int p0)]) (Nat.le_of_ble_eq_true rfl) rfl
  rw [he]
  clear he
  unfold w_X1_add at hw
  refine lv_aload_n hx hb dX1_add_0 rfl (lv_at hl 0 rfl) ?_
  refine z_geti C I fl_X1_15 hw dX1_add_1 (fun v1 hw => ?_)
  refine lv_if_lt (tgt := 39) hx hb dX1_add_4 (by decide) (fun c => ?_) (fun c => ?_)
  · have hw := hw.1 c
    exact z_vret C I hr ⟨rfl, hw⟩ (Nat.le_of_ble_eq_true rfl) (Nat.le_of_ble_eq_true rfl) dX1_add_39
  · have hw := hw.2 c
    refine lv_aload_n hx hb dX1_add_7 rfl (lv_at hl 0 rfl) ?_
    refine z_geti C I fl_X1_15 hw dX1_add_8 (fun v2 hw => ?_)
    refine lv_aload_n hx hb dX1_add_11 rfl (lv_at hl 0 rfl) ?_
    refine z_getr C I fl_X1_9 hw dX1_add_12 (fun v3 hw => ?_)
    refine z_alen C I hw dX1_add_15 (fun v4 hw => ?_)
    refine lv_icmp_ge (tgt := 39) hx hb dX1_add_16 (by decide) (fun c => ?_) (fun c => ?_)
    · have hw := hw.1 c
      exact z_vret C I hr ⟨rfl, hw⟩ (Nat.le_of_ble_eq_true rfl) (Nat.le_of_ble_eq_true rfl) dX1_add_39
    · have hw := hw.2 c
      refine lv_aload_n hx hb dX1_add_19 rfl (lv_at hl 0 rfl) ?_
      refine z_getr C I fl_X1_9 hw dX1_add_20 (fun v5 hw => ?_)
      refine lv_aload_n hx hb dX1_add_23 rfl (lv_at hl 0 rfl) ?_
      refine z_geti C I fl_X1_15 hw dX1_add_24 (fun v6 hw => ?_)
      refine lv_iload_n hx hb dX1_add_27 rfl (lv_at hl 1 rfl) ?_
      refine z_iast C I hw dX1_add_28 (fun M7 _ _ I hw => ?_)
      refine lv_aload_n hx hb dX1_add_29 rfl (lv_at hl 0 rfl) ?_
      refine lv_dup hx hb dX1_add_30 rfl ?_
      refine z_geti C I fl_X1_15 hw dX1_add_31 (fun v8 hw => ?_)
      refine lv_iconst (v := 1) hx hb dX1_add_34 (by decide) ?_
      refine lv_iadd hx hb dX1_add_35 ?_
      refine z_put C I fl_X1_15 rfl (v := .int (v8 + (1 : Int32))) rfl rfl hw dX1_add_36 (fun M9 _ _ I hw => ?_)
      exact z_vret C I hr ⟨rfl, hw⟩ (Nat.le_of_ble_eq_true rfl) (Nat.le_of_ble_eq_true rfl) dX1_add_39
set_option maxHeartbeats 4000000 in
set_option maxRecDepth 100000 in
theorem m_X1_at {X : zX} {l : Launch} (E : zEnv X l) {M : zM} {o : Nat} {p0 : Int32} {P : Int32 → zM → Prop} {PX : Nat → zM → Prop} (hw : w_X1_at o p0 M P) : zCT X l yX1_at cX1_at 2 (some .int) 0 0 0 0 M [.ref o, .int p0] (zPi P) PX := by
  refine z_entry E (by decide) ?_
  intro p e s m args below meth c C hr htab I
  have hx := C.1.1
  have hb := C.1.2.1
  obtain ⟨ls, he, hl⟩ := z_enter (m := m) (n := 2) (vs := [.ref o, .int p0]) (l := [(0, .ref o), (1, .int p0)]) (Nat.le_of_ble_eq_true rfl) rfl
  rw [he]
  clear he
  unfold w_X1_at at hw
  have hb_21 : ∀ (M : zM) (H : Heap) (locs : List Loc) (ls : Array Slot), zWk X s M H locs → lv_has ls 2 [] → w_X1_at_21 o p0 P M → W p l e (zRm 0 0 0 0) s m args below meth c H locs 0 0 (vx_MQ below (zQc X (zPi P)) (zXc X PX) args s 0 0 (zBase X)) (F0 m 21 ls []) := by
    intro M H locs ls I hl hw
    unfold w_X1_at_21 at hw
    refine lv_iconst (v := 0) hx hb dX1_at_21 (by decide) ?_
    refine lv_goto (tgt := 31) hx hb dX1_at_22 (by decide) ?_
    exact z_iret C I hr ⟨_, rfl, hw⟩ (Nat.le_of_ble_eq_true rfl) (Nat.le_of_ble_eq_true rfl) dX1_at_31
  refine lv_iload_n hx hb dX1_at_0 rfl (lv_at hl 1 rfl) ?_
  refine lv_if_lt (tgt := 21) hx hb dX1_at_1 (by decide) (fun c => ?_) (fun c => ?_)
  · have hw := hw.1 c
    refine W.widen (k := 0) (n := 0) (Nat.le_of_ble_eq_true rfl) (Nat.le_of_ble_eq_true rfl) ?_
    exact hb_21 _ _ _ ls I (lv_sub hl [] rfl) hw
  · have hw := hw.2 c
    refine lv_iload_n hx hb dX1_at_4 rfl (lv_at hl 1 rfl) ?_
    refine lv_aload_n hx hb dX1_at_5 rfl (lv_at hl 0 rfl) ?_
    refine z_geti C I fl_X1_15 hw dX1_at_6 (fun v1 hw => ?_)
    refine lv_icmp_ge (tgt := 21) hx hb dX1_at_9 (by decide) (fun c => ?_) (fun c => ?_)
    · have hw := hw.1 c
      refine W.widen (k := 0) (n := 0) (Nat.le_of_ble_eq_true rfl) (Nat.le_of_ble_eq_true rfl) ?_
      exact hb_21 _ _ _ ls I (lv_sub hl [] rfl) hw
    · have hw := hw.2 c
      refine lv_iload_n hx hb dX1_at_12 rfl (lv_at hl 1 rfl) ?_
      refine lv_aload_n hx hb dX1_at_13 rfl (lv_at hl 0 rfl) ?_
      refine z_getr C I fl_X1_9 hw dX1_at_14 (fun v2 hw => ?_)
      refine z_alen C I hw dX1_at_17 (fun v3 hw => ?_)
      refine lv_icmp_lt (tgt := 25) hx hb dX1_at_18 (by decide) (fun c => ?_) (fun c => ?_)
      · have hw := hw.1 c
        refine lv_aload_n hx hb dX1_at_25 rfl (lv_at hl 0 rfl) ?_
        refine z_getr C I fl_X1_9 hw dX1_at_26 (fun v4 hw => ?_)
        refine lv_iload_n hx hb dX1_at_29 rfl (lv_at hl 1 rfl) ?_
        refine z_iald C I hw dX1_at_30 (fun v5 hw => ?_)
        exact z_iret C I hr ⟨_, rfl, hw⟩ (Nat.le_of_ble_eq_true rfl) (Nat.le_of_ble_eq_true rfl) dX1_at_31
      · have hw := hw.2 c
        refine W.widen (k := 0) (n := 0) (Nat.le_of_ble_eq_true rfl) (Nat.le_of_ble_eq_true rfl) ?_
        exact hb_21 _ _ _ ls I (lv_sub hl [] rfl) hw
set_option maxHeartbeats 4000000 in
set_option maxRecDepth 100000 in
theorem m_X1_addAll {X : zX} {l : Launch} (E : zEnv X l) {M : zM} {o : Nat} {p0 : Nat} {P : zM → Prop} {PX : Nat → zM → Prop} (hw : w_X1_addAll o p0 M P) : zCT X l yX1_addAll cX1_addAll 3 none 1 21 0 0 M [.ref o, .ref p0] (zPv P) PX := by
  refine z_entry E (by decide) ?_
  intro p e s m args below meth c C hr htab I
  have hx := C.1.1
  have hb := C.1.2.1
  obtain ⟨ls, he, hl⟩ := z_enter (m := m) (n := 3) (vs := [.ref o, .ref p0]) (l := [(0, .ref o), (1, .ref p0)]) (Nat.le_of_ble_eq_true rfl) rfl
  rw [he]
  clear he
  unfold w_X1_addAll at hw
  have hb_2 : ∀ (n : Nat) (x2 : Int32) (M : zM) (H : Heap) (locs : List Loc) (ls : Array Slot), zWk X s M H locs → lv_has ls 3 [(0, .ref o), (1, .ref p0), (2, .int x2)] → w_X1_addAll_2 o p0 P n x2 M → W p l e (zRm 1 21 0 0) s m args below meth c H locs 0 0 (vx_MQ below (zQc X (zPv P)) (zXc X PX) args s 0 0 (zBase X)) (F0 m 2 ls []) := by
    intro n
    induction n with
    | zero => intro _ M H locs ls I hl hw; exact hw.elim
    | succ n ih =>
      intro x2 M H locs ls I hl hw
      unfold w_X1_addAll_2 at hw
      refine lv_iload_n hx hb dX1_addAll_2 rfl (lv_at hl 2 rfl) ?_
      refine lv_aload_n hx hb dX1_addAll_3 rfl (lv_at hl 1 rfl) ?_
      obtain ⟨hrc, hw⟩ := hw
      refine z_callV C I (as := []) (rest := [.int x2]) (m_X1_count E hw) kv_X1_19 vc_2 hrc rfl rfl hl.1 (Nat.le_of_ble_eq_true rfl) ⟨Nat.le_of_ble_eq_true rfl, Nat.le_of_ble_eq_true rfl⟩ ⟨Nat.le_of_ble_eq_true rfl, Nat.le_of_ble_eq_true rfl⟩ dX1_addAll_4 (z_prop C htab (Nat.le_of_ble_eq_true rfl) (Nat.le_of_ble_eq_true rfl)) (fun v M1 _ _ I hv => ?_)
      obtain ⟨v2, rfl, hw⟩ := hv
      refine W.eq (g2 := F0 m 7 ls [.int v2, .int x2]) rfl ?_
      refine lv_icmp_ge (tgt := 25) hx hb dX1_addAll_7 (by decide) (fun c => ?_) (fun c => ?_)
      · have hw := hw.1 c
        exact z_vret C I hr ⟨rfl, hw⟩ (Nat.le_of_ble_eq_true rfl) (Nat.le_of_ble_eq_true rfl) dX1_addAll_25
      · have hw := hw.2 c
        refine lv_aload_n hx hb dX1_addAll_10 rfl (lv_at hl 0 rfl) ?_
        refine lv_aload_n hx hb dX1_addAll_11 rfl (lv_at hl 1 rfl) ?_
        refine lv_iload_n hx hb dX1_addAll_12 rfl (lv_at hl 2 rfl) ?_
        obtain ⟨hrc, hw⟩ := hw
        refine z_callV C I (as := [.int x2]) (rest := [.ref o]) (m_X1_at E hw) kv_X1_23 vc_2 hrc rfl rfl hl.1 (Nat.le_of_ble_eq_true rfl) ⟨Nat.le_of_ble_eq_true rfl, Nat.le_of_ble_eq_true rfl⟩ ⟨Nat.le_of_ble_eq_true rfl, Nat.le_of_ble_eq_true rfl⟩ dX1_addAll_13 (z_prop C htab (Nat.le_of_ble_eq_true rfl) (Nat.le_of_ble_eq_true rfl)) (fun v M3 _ _ I hv => ?_)
        obtain ⟨v4, rfl, hw⟩ := hv
        refine W.eq (g2 := F0 m 16 ls [.int v4, .ref o]) rfl ?_
        obtain ⟨hrc, hw⟩ := hw
        refine z_callV C I (as := [.int v4]) (rest := []) (m_X1_add E hw) kv_X1_27 vc_2 hrc rfl rfl hl.1 (Nat.le_of_ble_eq_true rfl) ⟨Nat.le_of_ble_eq_true rfl, Nat.le_of_ble_eq_true rfl⟩ ⟨Nat.le_of_ble_eq_true rfl, Nat.le_of_ble_eq_true rfl⟩ dX1_addAll_16 (z_prop C htab (Nat.le_of_ble_eq_true rfl) (Nat.le_of_ble_eq_true rfl)) (fun v M5 _ _ I hv => ?_)
        obtain ⟨rfl, hw⟩ := hv
        refine W.eq (g2 := F0 m 19 ls []) rfl ?_
        refine lv_iinc (v := (x2 + 1)) (lv' := [(2, .int (x2 + 1)), (0, .ref o), (1, .ref p0)]) hx hb dX1_addAll_19 hl (k := 2) rfl (by rfl) (by decide) rfl (fun ls hl => ?_)
        refine lv_goto (tgt := 2) hx hb dX1_addAll_22 (by decide) ?_
        refine W.widen (k := 0) (n := 0) (Nat.le_of_ble_eq_true rfl) (Nat.le_of_ble_eq_true rfl) ?_
        exact ih (x2 + 1) _ _ _ ls I (lv_sub hl [1, 2, 0] rfl) hw
  refine lv_iconst (v := 0) hx hb dX1_addAll_0 (by decide) ?_
  refine lv_istore_n (lv' := [(2, .int (0 : Int32)), (0, .ref o), (1, .ref p0)]) hx hb dX1_addAll_1 rfl hl (by decide) rfl (fun ls hl => ?_)
  obtain ⟨nn, hw⟩ := hw
  refine W.widen (k := 0) (n := 0) (Nat.le_of_ble_eq_true rfl) (Nat.le_of_ble_eq_true rfl) ?_
  exact hb_2 nn (0 : Int32) _ _ _ ls I (lv_sub hl [1, 2, 0] rfl) hw
set_option maxHeartbeats 4000000 in
set_option maxRecDepth 100000 in
theorem m_X1_empty {X : zX} {l : Launch} (E : zEnv X l) {M : zM} {o : Nat} {P : zM → Prop} {PX : Nat → zM → Prop} (hw : w_X1_empty o M P) : zCT X l yX1_empty cX1_empty 1 none 0 0 0 0 M [.ref o] (zPv P) PX := by
  refine z_entry E (by decide) ?_
  intro p e s m args below meth c C hr htab I
  have hx := C.1.1
  have hb := C.1.2.1
  obtain ⟨ls, he, hl⟩ := z_enter (m := m) (n := 1) (vs := [.ref o]) (l := [(0, .ref o)]) (Nat.le_of_ble_eq_true rfl) rfl
  rw [he]
  clear he
  unfold w_X1_empty at hw
  refine lv_aload_n hx hb dX1_empty_0 rfl (lv_at hl 0 rfl) ?_
  refine lv_iconst (v := 0) hx hb dX1_empty_1 (by decide) ?_
  refine z_put C I fl_X1_15 rfl (v := .int (0 : Int32)) rfl rfl hw dX1_empty_2 (fun M1 _ _ I hw => ?_)
  exact z_vret C I hr ⟨rfl, hw⟩ (Nat.le_of_ble_eq_true rfl) (Nat.le_of_ble_eq_true rfl) dX1_empty_5
set_option maxHeartbeats 4000000 in
set_option maxRecDepth 100000 in
theorem m_X6_thrown {X : zX} {l : Launch} (E : zEnv X l) {M : zM} {o : Nat} {P : Int32 → zM → Prop} {PX : Nat → zM → Prop} (hw : w_X6_thrown o M P) : zCT X l yX6_thrown cX6_thrown 1 (some .int) 0 0 0 0 M [.ref o] (zPi P) PX := by
  refine z_entry E (by decide) ?_
  intro p e s m args below meth c C hr htab I
  have hx := C.1.1
  have hb := C.1.2.1
  obtain ⟨ls, he, hl⟩ := z_enter (m := m) (n := 1) (vs := [.ref o]) (l := [(0, .ref o)]) (Nat.le_of_ble_eq_true rfl) rfl
  rw [he]
  clear he
  unfold w_X6_thrown at hw
  refine lv_aload_n hx hb dX6_thrown_0 rfl (lv_at hl 0 rfl) ?_
  refine z_geti C I fl_X6_71 hw dX6_thrown_1 (fun v1 hw => ?_)
  exact z_iret C I hr ⟨_, rfl, hw⟩ (Nat.le_of_ble_eq_true rfl) (Nat.le_of_ble_eq_true rfl) dX6_thrown_4
set_option maxHeartbeats 4000000 in
set_option maxRecDepth 100000 in
theorem m_X6_holds {X : zX} {l : Launch} (E : zEnv X l) {M : zM} {o : Nat} {p0 : Int32} {P : Int32 → zM → Prop} {PX : Nat → zM → Prop} (hw : w_X6_holds o p0 M P) : zCT X l yX6_holds cX6_holds 2 (some .boolean) 0 0 0 0 M [.ref o, .int p0] (zPz P) PX := by
  refine z_entry E (by decide) ?_
  intro p e s m args below meth c C hr htab I
  have hx := C.1.1
  have hb := C.1.2.1
  obtain ⟨ls, he, hl⟩ := z_enter (m := m) (n := 2) (vs := [.ref o, .int p0]) (l := [(0, .ref o), (1, .int p0)]) (Nat.le_of_ble_eq_true rfl) rfl
  rw [he]
  clear he
  unfold w_X6_holds at hw
  refine lv_aload_n hx hb dX6_holds_0 rfl (lv_at hl 0 rfl) ?_
  refine lv_iload_n hx hb dX6_holds_1 rfl (lv_at hl 1 rfl) ?_
  refine z_put C I fl_X6_71 rfl (v := .int p0) rfl rfl hw dX6_holds_2 (fun M1 _ _ I hw => ?_)
  refine lv_iload_n hx hb dX6_holds_5 rfl (lv_at hl 1 rfl) ?_
  refine lv_if_ne (tgt := 13) hx hb dX6_holds_6 (by decide) (fun c => ?_) (fun c => ?_)
  · have hw := hw.1 c
    refine lv_iconst (v := 0) hx hb dX6_holds_13 (by decide) ?_
    exact z_zret C I hr (Or.inl rfl) ⟨_, rfl, (Or.inl rfl), hw⟩ (Nat.le_of_ble_eq_true rfl) (Nat.le_of_ble_eq_true rfl) dX6_holds_14
  · have hw := hw.2 c
    refine lv_iconst (v := 1) hx hb dX6_holds_9 (by decide) ?_
    refine lv_goto (tgt := 14) hx hb dX6_holds_10 (by decide) ?_
    exact z_zret C I hr (Or.inr rfl) ⟨_, rfl, (Or.inr rfl), hw⟩ (Nat.le_of_ble_eq_true rfl) (Nat.le_of_ble_eq_true rfl) dX6_holds_14
set_option maxHeartbeats 4000000 in
set_option maxRecDepth 100000 in
theorem m_X6_in {X : zX} {l : Launch} (E : zEnv X l) {M : zM} {p0 : Int32} {p1 : Int32} {p2 : Int32} {P : Int32 → zM → Prop} {PX : Nat → zM → Prop} (hw : w_X6_in p0 p1 p2 M P) : zCT X l yX6_in cX6_in 3 (some .boolean) 0 0 0 0 M [.int p0, .int p1, .int p2] (zPz P) PX := by
  refine z_entry E (by decide) ?_
  intro p e s m args below meth c C hr htab I
  have hx := C.1.1
  have hb := C.1.2.1
  obtain ⟨ls, he, hl⟩ := z_enter (m := m) (n := 3) (vs := [.int p0, .int p1, .int p2]) (l := [(0, .int p0), (1, .int p1), (2, .int p2)]) (Nat.le_of_ble_eq_true rfl) rfl
  rw [he]
  clear he
  unfold w_X6_in at hw
  refine lv_iload_n hx hb dX6_in_0 rfl (lv_at hl 0 rfl) ?_
  refine lv_iload_n hx hb dX6_in_1 rfl (lv_at hl 1 rfl) ?_
  refine lv_icmp_lt (tgt := 14) hx hb dX6_in_2 (by decide) (fun c => ?_) (fun c => ?_)
  · have hw := hw.1 c
    refine lv_iconst (v := 0) hx hb dX6_in_14 (by decide) ?_
    exact z_zret C I hr (Or.inl rfl) ⟨_, rfl, (Or.inl rfl), hw⟩ (Nat.le_of_ble_eq_true rfl) (Nat.le_of_ble_eq_true rfl) dX6_in_15
  · have hw := hw.2 c
    refine lv_iload_n hx hb dX6_in_5 rfl (lv_at hl 0 rfl) ?_
    refine lv_iload_n hx hb dX6_in_6 rfl (lv_at hl 2 rfl) ?_
    refine lv_icmp_gt (tgt := 14) hx hb dX6_in_7 (by decide) (fun c => ?_) (fun c => ?_)
    · have hw := hw.1 c
      refine lv_iconst (v := 0) hx hb dX6_in_14 (by decide) ?_
      exact z_zret C I hr (Or.inl rfl) ⟨_, rfl, (Or.inl rfl), hw⟩ (Nat.le_of_ble_eq_true rfl) (Nat.le_of_ble_eq_true rfl) dX6_in_15
    · have hw := hw.2 c
      refine lv_iconst (v := 1) hx hb dX6_in_10 (by decide) ?_
      refine lv_goto (tgt := 15) hx hb dX6_in_11 (by decide) ?_
      exact z_zret C I hr (Or.inr rfl) ⟨_, rfl, (Or.inr rfl), hw⟩ (Nat.le_of_ble_eq_true rfl) (Nat.le_of_ble_eq_true rfl) dX6_in_15
set_option maxHeartbeats 4000000 in
set_option maxRecDepth 100000 in
theorem m_X6_isSubject {X : zX} {l : Launch} (E : zEnv X l) {M : zM} {p0 : Int32} {P : Int32 → zM → Prop} {PX : Nat → zM → Prop} (hw : w_X6_isSubject p0 M P) : zCT X l yX6_isSubject cX6_isSubject 1 (some .boolean) 1 22 0 0 M [.int p0] (zPz P) PX := by
  refine z_entry E (by decide) ?_
  intro p e s m args below meth c C hr htab I
  have hx := C.1.1
  have hb := C.1.2.1
  obtain ⟨ls, he, hl⟩ := z_enter (m := m) (n := 1) (vs := [.int p0]) (l := [(0, .int p0)]) (Nat.le_of_ble_eq_true rfl) rfl
  rw [he]
  clear he
  unfold w_X6_isSubject at hw
  refine lv_iload_n hx hb dX6_isSubject_0 rfl (lv_at hl 0 rfl) ?_
  refine lv_iconst (v := 0) hx hb dX6_isSubject_1 (by decide) ?_
  refine lv_iconst (v := 5) hx hb dX6_isSubject_2 (by decide) ?_
  refine z_callS C I (as := [.int p0, .int (0 : Int32), .int (5 : Int32)]) (rest := []) (m_X6_in E hw) ks_X6_75 rfl rfl hl.1 (Nat.le_of_ble_eq_true rfl) ⟨Nat.le_of_ble_eq_true rfl, Nat.le_of_ble_eq_true rfl⟩ ⟨Nat.le_of_ble_eq_true rfl, Nat.le_of_ble_eq_true rfl⟩ dX6_isSubject_3 (z_prop C htab (Nat.le_of_ble_eq_true rfl) (Nat.le_of_ble_eq_true rfl)) (fun v M1 _ _ I hv => ?_)
  obtain ⟨v2, rfl, hv2, hw⟩ := hv
  refine W.eq (g2 := F0 m 6 ls [.int v2]) rfl ?_
  exact z_zret C I hr hv2 ⟨_, rfl, hv2, hw⟩ (Nat.le_of_ble_eq_true rfl) (Nat.le_of_ble_eq_true rfl) dX6_isSubject_6
set_option maxHeartbeats 4000000 in
set_option maxRecDepth 100000 in
theorem m_X6_isVersion {X : zX} {l : Launch} (E : zEnv X l) {M : zM} {o : Nat} {p0 : Int32} {p1 : Int32} {P : Int32 → zM → Prop} {PX : Nat → zM → Prop} (hw : w_X6_isVersion o p0 p1 M P) : zCT X l yX6_isVersion cX6_isVersion 3 (some .boolean) 1 22 0 0 M [.ref o, .int p0, .int p1] (zPz P) PX := by
  refine z_entry E (by decide) ?_
  intro p e s m args below meth c C hr htab I
  have hx := C.1.1
  have hb := C.1.2.1
  obtain ⟨ls, he, hl⟩ := z_enter (m := m) (n := 3) (vs := [.ref o, .int p0, .int p1]) (l := [(0, .ref o), (1, .int p0), (2, .int p1)]) (Nat.le_of_ble_eq_true rfl) rfl
  rw [he]
  clear he
  unfold w_X6_isVersion at hw
  refine lv_iload_n hx hb dX6_isVersion_0 rfl (lv_at hl 2 rfl) ?_
  refine lv_iconst (v := 0) hx hb dX6_isVersion_1 (by decide) ?_
  refine lv_aload_n hx hb dX6_isVersion_2 rfl (lv_at hl 0 rfl) ?_
  refine z_getr C I fl_X6_44 hw dX6_isVersion_3 (fun v1 hw => ?_)
  refine lv_iload_n hx hb dX6_isVersion_6 rfl (lv_at hl 1 rfl) ?_
  refine z_iald C I hw dX6_isVersion_7 (fun v2 hw => ?_)
  refine lv_iconst (v := 1) hx hb dX6_isVersion_8 (by decide) ?_
  refine lv_isub hx hb dX6_isVersion_9 ?_
  refine z_callS C I (as := [.int p1, .int (0 : Int32), .int (v2 - (1 : Int32))]) (rest := []) (m_X6_in E hw) ks_X6_75 rfl rfl hl.1 (Nat.le_of_ble_eq_true rfl) ⟨Nat.le_of_ble_eq_true rfl, Nat.le_of_ble_eq_true rfl⟩ ⟨Nat.le_of_ble_eq_true rfl, Nat.le_of_ble_eq_true rfl⟩ dX6_isVersion_10 (z_prop C htab (Nat.le_of_ble_eq_true rfl) (Nat.le_of_ble_eq_true rfl)) (fun v M3 _ _ I hv => ?_)
  obtain ⟨v4, rfl, hv4, hw⟩ := hv
  refine W.eq (g2 := F0 m 13 ls [.int v4]) rfl ?_
  refine lv_if_eq (tgt := 35) hx hb dX6_isVersion_13 (by decide) (fun c => ?_) (fun c => ?_)
  · have hw := hw.1 c
    refine lv_iconst (v := 0) hx hb dX6_isVersion_35 (by decide) ?_
    exact z_zret C I hr (Or.inl rfl) ⟨_, rfl, (Or.inl rfl), hw⟩ (Nat.le_of_ble_eq_true rfl) (Nat.le_of_ble_eq_true rfl) dX6_isVersion_36
  · have hw := hw.2 c
    refine lv_aload_n hx hb dX6_isVersion_16 rfl (lv_at hl 0 rfl) ?_
    refine z_getr C I fl_X6_41 hw dX6_isVersion_17 (fun v5 hw => ?_)
    refine lv_bipush (v := 6) hx hb dX6_isVersion_20 (by decide) ?_
    refine lv_iload_n hx hb dX6_isVersion_22 rfl (lv_at hl 1 rfl) ?_
    refine lv_imul hx hb dX6_isVersion_23 ?_
    refine lv_iload_n hx hb dX6_isVersion_24 rfl (lv_at hl 2 rfl) ?_
    refine lv_iadd hx hb dX6_isVersion_25 ?_
    refine z_iald C I hw dX6_isVersion_26 (fun v6 hw => ?_)
    refine lv_iconst (v := 3) hx hb dX6_isVersion_27 (by decide) ?_
    refine lv_icmp_eq (tgt := 35) hx hb dX6_isVersion_28 (by decide) (fun c => ?_) (fun c => ?_)
    · have hw := hw.1 c
      refine lv_iconst (v := 0) hx hb dX6_isVersion_35 (by decide) ?_
      exact z_zret C I hr (Or.inl rfl) ⟨_, rfl, (Or.inl rfl), hw⟩ (Nat.le_of_ble_eq_true rfl) (Nat.le_of_ble_eq_true rfl) dX6_isVersion_36
    · have hw := hw.2 c
      refine lv_iconst (v := 1) hx hb dX6_isVersion_31 (by decide) ?_
      refine lv_goto (tgt := 36) hx hb dX6_isVersion_32 (by decide) ?_
      exact z_zret C I hr (Or.inr rfl) ⟨_, rfl, (Or.inr rfl), hw⟩ (Nat.le_of_ble_eq_true rfl) (Nat.le_of_ble_eq_true rfl) dX6_isVersion_36
set_option maxHeartbeats 4000000 in
set_option maxRecDepth 100000 in
theorem m_X6_isThereAt {X : zX} {l : Launch} (E : zEnv X l) {M : zM} {o : Nat} {p0 : Int32} {p1 : Int32} {P : Int32 → zM → Prop} {PX : Nat → zM → Prop} (hw : w_X6_isThereAt o p0 p1 M P) : zCT X l yX6_isThereAt cX6_isThereAt 3 (some .boolean) 2 44 0 0 M [.ref o, .int p0, .int p1] (zPz P) PX := by
  refine z_entry E (by decide) ?_
  intro p e s m args below meth c C hr htab I
  have hx := C.1.1
  have hb := C.1.2.1
  obtain ⟨ls, he, hl⟩ := z_enter (m := m) (n := 3) (vs := [.ref o, .int p0, .int p1]) (l := [(0, .ref o), (1, .int p0), (2, .int p1)]) (Nat.le_of_ble_eq_true rfl) rfl
  rw [he]
  clear he
  unfold w_X6_isThereAt at hw
  refine lv_aload_n hx hb dX6_isThereAt_0 rfl (lv_at hl 0 rfl) ?_
  refine lv_iload_n hx hb dX6_isThereAt_1 rfl (lv_at hl 1 rfl) ?_
  refine lv_iload_n hx hb dX6_isThereAt_2 rfl (lv_at hl 2 rfl) ?_
  obtain ⟨hrc, hw⟩ := hw
  refine z_callV C I (as := [.int p0, .int p1]) (rest := []) (m_X6_isVersion E hw) kv_X6_79 vc_7 hrc rfl rfl hl.1 (Nat.le_of_ble_eq_true rfl) ⟨Nat.le_of_ble_eq_true rfl, Nat.le_of_ble_eq_true rfl⟩ ⟨Nat.le_of_ble_eq_true rfl, Nat.le_of_ble_eq_true rfl⟩ dX6_isThereAt_3 (z_prop C htab (Nat.le_of_ble_eq_true rfl) (Nat.le_of_ble_eq_true rfl)) (fun v M1 _ _ I hv => ?_)
  obtain ⟨v2, rfl, hv2, hw⟩ := hv
  refine W.eq (g2 := F0 m 6 ls [.int v2]) rfl ?_
  refine lv_if_eq (tgt := 28) hx hb dX6_isThereAt_6 (by decide) (fun c => ?_) (fun c => ?_)
  · have hw := hw.1 c
    refine lv_iconst (v := 0) hx hb dX6_isThereAt_28 (by decide) ?_
    exact z_zret C I hr (Or.inl rfl) ⟨_, rfl, (Or.inl rfl), hw⟩ (Nat.le_of_ble_eq_true rfl) (Nat.le_of_ble_eq_true rfl) dX6_isThereAt_29
  · have hw := hw.2 c
    refine lv_aload_n hx hb dX6_isThereAt_9 rfl (lv_at hl 0 rfl) ?_
    refine z_getr C I fl_X6_41 hw dX6_isThereAt_10 (fun v3 hw => ?_)
    refine lv_bipush (v := 6) hx hb dX6_isThereAt_13 (by decide) ?_
    refine lv_iload_n hx hb dX6_isThereAt_15 rfl (lv_at hl 1 rfl) ?_
    refine lv_imul hx hb dX6_isThereAt_16 ?_
    refine lv_iload_n hx hb dX6_isThereAt_17 rfl (lv_at hl 2 rfl) ?_
    refine lv_iadd hx hb dX6_isThereAt_18 ?_
    refine z_iald C I hw dX6_isThereAt_19 (fun v4 hw => ?_)
    refine lv_iconst (v := 1) hx hb dX6_isThereAt_20 (by decide) ?_
    refine lv_icmp_ne (tgt := 28) hx hb dX6_isThereAt_21 (by decide) (fun c => ?_) (fun c => ?_)
    · have hw := hw.1 c
      refine lv_iconst (v := 0) hx hb dX6_isThereAt_28 (by decide) ?_
      exact z_zret C I hr (Or.inl rfl) ⟨_, rfl, (Or.inl rfl), hw⟩ (Nat.le_of_ble_eq_true rfl) (Nat.le_of_ble_eq_true rfl) dX6_isThereAt_29
    · have hw := hw.2 c
      refine lv_iconst (v := 1) hx hb dX6_isThereAt_24 (by decide) ?_
      refine lv_goto (tgt := 29) hx hb dX6_isThereAt_25 (by decide) ?_
      exact z_zret C I hr (Or.inr rfl) ⟨_, rfl, (Or.inr rfl), hw⟩ (Nat.le_of_ble_eq_true rfl) (Nat.le_of_ble_eq_true rfl) dX6_isThereAt_29
set_option maxHeartbeats 4000000 in
set_option maxRecDepth 100000 in
theorem m_X6_schemaOf {X : zX} {l : Launch} (E : zEnv X l) {M : zM} {o : Nat} {p0 : Int32} {P : Int32 → zM → Prop} {PX : Nat → zM → Prop} (hw : w_X6_schemaOf o p0 M P) : zCT X l yX6_schemaOf cX6_schemaOf 2 (some .int) 0 0 0 0 M [.ref o, .int p0] (zPi P) PX := by
  refine z_entry E (by decide) ?_
  intro p e s m args below meth c C hr htab I
  have hx := C.1.1
  have hb := C.1.2.1
  obtain ⟨ls, he, hl⟩ := z_enter (m := m) (n := 2) (vs := [.ref o, .int p0]) (l := [(0, .ref o), (1, .int p0)]) (Nat.le_of_ble_eq_true rfl) rfl
  rw [he]
  clear he
  unfold w_X6_schemaOf at hw
  refine lv_aload_n hx hb dX6_schemaOf_0 rfl (lv_at hl 0 rfl) ?_
  refine z_getr C I fl_X6_38 hw dX6_schemaOf_1 (fun v1 hw => ?_)
  refine lv_bipush (v := 6) hx hb dX6_schemaOf_4 (by decide) ?_
  refine lv_iload_n hx hb dX6_schemaOf_6 rfl (lv_at hl 1 rfl) ?_
  refine lv_bipush (v := 10) hx hb dX6_schemaOf_7 (by decide) ?_
  refine lv_idiv hx hb dX6_schemaOf_9 (by decide) ?_
  refine lv_imul hx hb dX6_schemaOf_10 ?_
  refine lv_iload_n hx hb dX6_schemaOf_11 rfl (lv_at hl 1 rfl) ?_
  refine lv_bipush (v := 10) hx hb dX6_schemaOf_12 (by decide) ?_
  refine lv_irem hx hb dX6_schemaOf_14 (by decide) ?_
  refine lv_iadd hx hb dX6_schemaOf_15 ?_
  refine z_iald C I hw dX6_schemaOf_16 (fun v2 hw => ?_)
  exact z_iret C I hr ⟨_, rfl, hw⟩ (Nat.le_of_ble_eq_true rfl) (Nat.le_of_ble_eq_true rfl) dX6_schemaOf_17
set_option maxHeartbeats 4000000 in
set_option maxRecDepth 100000 in
theorem m_X6_isRange {X : zX} {l : Launch} (E : zEnv X l) {M : zM} {o : Nat} {p0 : Int32} {p1 : Int32} {p2 : Int32} {p3 : Int32} {P : Int32 → zM → Prop} {PX : Nat → zM → Prop} (hw : w_X6_isRange o p0 p1 p2 p3 M P) : zCT X l yX6_isRange cX6_isRange 6 (some .boolean) 1 22 0 0 M [.ref o, .int p0, .int p1, .int p2, .int p3] (zPz P) PX := by
  refine z_entry E (by decide) ?_
  intro p e s m args below meth c C hr htab I
  have hx := C.1.1
  have hb := C.1.2.1
  obtain ⟨ls, he, hl⟩ := z_enter (m := m) (n := 6) (vs := [.ref o, .int p0, .int p1, .int p2, .int p3]) (l := [(0, .ref o), (1, .int p0), (2, .int p1), (3, .int p2), (4, .int p3)]) (Nat.le_of_ble_eq_true rfl) rfl
  rw [he]
  clear he
  unfold w_X6_isRange at hw
  have hb_19 : ∀ (y0 : Int32) (M : zM) (H : Heap) (locs : List Loc) (ls : Array Slot), zWk X s M H locs → lv_has ls 6 [(1, .int p0), (2, .int p1), (4, .int p3)] → w_X6_isRange_19 o p0 p1 p2 p3 P y0 M → W p l e (zRm 1 22 0 0) s m args below meth c H locs 0 0 (vx_MQ below (zQc X (zPz P)) (zXc X PX) args s 0 0 (zBase X)) (F0 m 19 ls [.int y0]) := by
    intro y0 M H locs ls I hl hw
    unfold w_X6_isRange_19 at hw
    refine lv_istore (lv' := [(5, .int y0), (1, .int p0), (2, .int p1), (4, .int p3)]) hx hb dX6_isRange_19 hl (by decide) rfl (fun ls hl => ?_)
    refine lv_iload_n hx hb dX6_isRange_21 rfl (lv_at hl 1 rfl) ?_
    refine lv_iconst (v := 0) hx hb dX6_isRange_22 (by decide) ?_
    refine lv_bipush (v := 9) hx hb dX6_isRange_23 (by decide) ?_
    refine z_callS C I (as := [.int p0, .int (0 : Int32), .int (9 : Int32)]) (rest := []) (m_X6_in E hw) ks_X6_75 rfl rfl hl.1 (Nat.le_of_ble_eq_true rfl) ⟨Nat.le_of_ble_eq_true rfl, Nat.le_of_ble_eq_true rfl⟩ ⟨Nat.le_of_ble_eq_true rfl, Nat.le_of_ble_eq_true rfl⟩ dX6_isRange_25 (z_prop C htab (Nat.le_of_ble_eq_true rfl) (Nat.le_of_ble_eq_true rfl)) (fun v M1 _ _ I hv => ?_)
    obtain ⟨v2, rfl, hv2, hw⟩ := hv
    refine W.eq (g2 := F0 m 28 ls [.int v2]) rfl ?_
    refine lv_if_eq (tgt := 66) hx hb dX6_isRange_28 (by decide) (fun c => ?_) (fun c => ?_)
    · have hw := hw.1 c
      refine lv_iconst (v := 0) hx hb dX6_isRange_66 (by decide) ?_
      exact z_zret C I hr (Or.inl rfl) ⟨_, rfl, (Or.inl rfl), hw⟩ (Nat.le_of_ble_eq_true rfl) (Nat.le_of_ble_eq_true rfl) dX6_isRange_67
    · have hw := hw.2 c
      refine lv_iload_n hx hb dX6_isRange_31 rfl (lv_at hl 2 rfl) ?_
      refine lv_iconst (v := 0) hx hb dX6_isRange_32 (by decide) ?_
      refine lv_iconst (v := 4) hx hb dX6_isRange_33 (by decide) ?_
      refine z_callS C I (as := [.int p1, .int (0 : Int32), .int (4 : Int32)]) (rest := []) (m_X6_in E hw) ks_X6_75 rfl rfl hl.1 (Nat.le_of_ble_eq_true rfl) ⟨Nat.le_of_ble_eq_true rfl, Nat.le_of_ble_eq_true rfl⟩ ⟨Nat.le_of_ble_eq_true rfl, Nat.le_of_ble_eq_true rfl⟩ dX6_isRange_34 (z_prop C htab (Nat.le_of_ble_eq_true rfl) (Nat.le_of_ble_eq_true rfl)) (fun v M3 _ _ I hv => ?_)
      obtain ⟨v4, rfl, hv4, hw⟩ := hv
      refine W.eq (g2 := F0 m 37 ls [.int v4]) rfl ?_
      refine lv_if_eq (tgt := 66) hx hb dX6_isRange_37 (by decide) (fun c => ?_) (fun c => ?_)
      · have hw := hw.1 c
        refine lv_iconst (v := 0) hx hb dX6_isRange_66 (by decide) ?_
        exact z_zret C I hr (Or.inl rfl) ⟨_, rfl, (Or.inl rfl), hw⟩ (Nat.le_of_ble_eq_true rfl) (Nat.le_of_ble_eq_true rfl) dX6_isRange_67
      · have hw := hw.2 c
        refine lv_iload hx hb dX6_isRange_40 (lv_at hl 0 rfl) ?_
        refine lv_if_eq (tgt := 66) hx hb dX6_isRange_42 (by decide) (fun c => ?_) (fun c => ?_)
        · have hw := hw.1 c
          refine lv_iconst (v := 0) hx hb dX6_isRange_66 (by decide) ?_
          exact z_zret C I hr (Or.inl rfl) ⟨_, rfl, (Or.inl rfl), hw⟩ (Nat.le_of_ble_eq_true rfl) (Nat.le_of_ble_eq_true rfl) dX6_isRange_67
        · have hw := hw.2 c
          refine lv_iload hx hb dX6_isRange_45 (lv_at hl 3 rfl) ?_
          refine lv_iconst (v := -1) hx hb dX6_isRange_47 (by decide) ?_
          refine lv_bipush (v := 9) hx hb dX6_isRange_48 (by decide) ?_
          refine z_callS C I (as := [.int p3, .int (-1 : Int32), .int (9 : Int32)]) (rest := []) (m_X6_in E hw) ks_X6_75 rfl rfl hl.1 (Nat.le_of_ble_eq_true rfl) ⟨Nat.le_of_ble_eq_true rfl, Nat.le_of_ble_eq_true rfl⟩ ⟨Nat.le_of_ble_eq_true rfl, Nat.le_of_ble_eq_true rfl⟩ dX6_isRange_50 (z_prop C htab (Nat.le_of_ble_eq_true rfl) (Nat.le_of_ble_eq_true rfl)) (fun v M5 _ _ I hv => ?_)
          obtain ⟨v6, rfl, hv6, hw⟩ := hv
          refine W.eq (g2 := F0 m 53 ls [.int v6]) rfl ?_
          refine lv_if_eq (tgt := 66) hx hb dX6_isRange_53 (by decide) (fun c => ?_) (fun c => ?_)
          · have hw := hw.1 c
            refine lv_iconst (v := 0) hx hb dX6_isRange_66 (by decide) ?_
            exact z_zret C I hr (Or.inl rfl) ⟨_, rfl, (Or.inl rfl), hw⟩ (Nat.le_of_ble_eq_true rfl) (Nat.le_of_ble_eq_true rfl) dX6_isRange_67
          · have hw := hw.2 c
            refine lv_iload hx hb dX6_isRange_56 (lv_at hl 3 rfl) ?_
            refine lv_iload_n hx hb dX6_isRange_58 rfl (lv_at hl 1 rfl) ?_
            refine lv_icmp_eq (tgt := 66) hx hb dX6_isRange_59 (by decide) (fun c => ?_) (fun c => ?_)
            · have hw := hw.1 c
              refine lv_iconst (v := 0) hx hb dX6_isRange_66 (by decide) ?_
              exact z_zret C I hr (Or.inl rfl) ⟨_, rfl, (Or.inl rfl), hw⟩ (Nat.le_of_ble_eq_true rfl) (Nat.le_of_ble_eq_true rfl) dX6_isRange_67
            · have hw := hw.2 c
              refine lv_iconst (v := 1) hx hb dX6_isRange_62 (by decide) ?_
              refine lv_goto (tgt := 67) hx hb dX6_isRange_63 (by decide) ?_
              exact z_zret C I hr (Or.inr rfl) ⟨_, rfl, (Or.inr rfl), hw⟩ (Nat.le_of_ble_eq_true rfl) (Nat.le_of_ble_eq_true rfl) dX6_isRange_67
  have hb_14 : ∀ (M : zM) (H : Heap) (locs : List Loc) (ls : Array Slot), zWk X s M H locs → lv_has ls 6 [(1, .int p0), (2, .int p1), (4, .int p3)] → w_X6_isRange_14 o p0 p1 p2 p3 P M → W p l e (zRm 1 22 0 0) s m args below meth c H locs 0 0 (vx_MQ below (zQc X (zPz P)) (zXc X PX) args s 0 0 (zBase X)) (F0 m 14 ls []) := by
    intro M H locs ls I hl hw
    unfold w_X6_isRange_14 at hw
    refine lv_iconst (v := 1) hx hb dX6_isRange_14 (by decide) ?_
    refine lv_goto (tgt := 19) hx hb dX6_isRange_15 (by decide) ?_
    refine W.widen (k := 0) (n := 0) (Nat.le_of_ble_eq_true rfl) (Nat.le_of_ble_eq_true rfl) ?_
    exact hb_19 (1 : Int32) _ _ _ ls I (lv_sub hl [0, 1, 2] rfl) hw
  refine lv_iload_n hx hb dX6_isRange_0 rfl (lv_at hl 2 rfl) ?_
  refine lv_iconst (v := 3) hx hb dX6_isRange_1 (by decide) ?_
  refine lv_icmp_ne (tgt := 14) hx hb dX6_isRange_2 (by decide) (fun c => ?_) (fun c => ?_)
  · have hw := hw.1 c
    refine W.widen (k := 0) (n := 0) (Nat.le_of_ble_eq_true rfl) (Nat.le_of_ble_eq_true rfl) ?_
    exact hb_14 _ _ _ ls I (lv_sub hl [1, 2, 4] rfl) hw
  · have hw := hw.2 c
    refine lv_iload_n hx hb dX6_isRange_5 rfl (lv_at hl 3 rfl) ?_
    refine lv_iconst (v := 1) hx hb dX6_isRange_6 (by decide) ?_
    refine lv_iconst (v := 4) hx hb dX6_isRange_7 (by decide) ?_
    refine z_callS C I (as := [.int p2, .int (1 : Int32), .int (4 : Int32)]) (rest := []) (m_X6_in E hw) ks_X6_75 rfl rfl hl.1 (Nat.le_of_ble_eq_true rfl) ⟨Nat.le_of_ble_eq_true rfl, Nat.le_of_ble_eq_true rfl⟩ ⟨Nat.le_of_ble_eq_true rfl, Nat.le_of_ble_eq_true rfl⟩ dX6_isRange_8 (z_prop C htab (Nat.le_of_ble_eq_true rfl) (Nat.le_of_ble_eq_true rfl)) (fun v M7 _ _ I hv => ?_)
    obtain ⟨v8, rfl, hv8, hw⟩ := hv
    refine W.eq (g2 := F0 m 11 ls [.int v8]) rfl ?_
    refine lv_if_eq (tgt := 18) hx hb dX6_isRange_11 (by decide) (fun c => ?_) (fun c => ?_)
    · have hw := hw.1 c
      refine lv_iconst (v := 0) hx hb dX6_isRange_18 (by decide) ?_
      refine W.widen (k := 0) (n := 0) (Nat.le_of_ble_eq_true rfl) (Nat.le_of_ble_eq_true rfl) ?_
      exact hb_19 (0 : Int32) _ _ _ ls I (lv_sub hl [1, 2, 4] rfl) hw
    · have hw := hw.2 c
      refine W.widen (k := 0) (n := 0) (Nat.le_of_ble_eq_true rfl) (Nat.le_of_ble_eq_true rfl) ?_
      exact hb_14 _ _ _ ls I (lv_sub hl [1, 2, 4] rfl) hw
set_option maxHeartbeats 4000000 in
set_option maxRecDepth 100000 in
theorem m_X6_named {X : zX} {l : Launch} (E : zEnv X l) {M : zM} {o : Nat} {p0 : Int32} {p1 : Int32} {P : Int32 → zM → Prop} {PX : Nat → zM → Prop} (hw : w_X6_named o p0 p1 M P) : zCT X l yX6_named cX6_named 4 (some .int) 0 0 0 0 M [.ref o, .int p0, .int p1] (zPi P) PX := by
  refine z_entry E (by decide) ?_
  intro p e s m args below meth c C hr htab I
  have hx := C.1.1
  have hb := C.1.2.1
  obtain ⟨ls, he, hl⟩ := z_enter (m := m) (n := 4) (vs := [.ref o, .int p0, .int p1]) (l := [(0, .ref o), (1, .int p0), (2, .int p1)]) (Nat.le_of_ble_eq_true rfl) rfl
  rw [he]
  clear he
  unfold w_X6_named at hw
  have hb_2 : ∀ (n : Nat) (x3 : Int32) (M : zM) (H : Heap) (locs : List Loc) (ls : Array Slot), zWk X s M H locs → lv_has ls 4 [(0, .ref o), (1, .int p0), (2, .int p1), (3, .int x3)] → w_X6_named_2 o p0 p1 P n x3 M → W p l e (zRm 0 0 0 0) s m args below meth c H locs 0 0 (vx_MQ below (zQc X (zPi P)) (zXc X PX) args s 0 0 (zBase X)) (F0 m 2 ls []) := by
    intro n
    induction n with
    | zero => intro _ M H locs ls I hl hw; exact hw.elim
    | succ n ih =>
      intro x3 M H locs ls I hl hw
      unfold w_X6_named_2 at hw
      refine lv_iload_n hx hb dX6_named_2 rfl (lv_at hl 3 rfl) ?_
      refine lv_aload_n hx hb dX6_named_3 rfl (lv_at hl 0 rfl) ?_
      refine z_getr C I fl_X6_29 hw dX6_named_4 (fun v1 hw => ?_)
      refine lv_iload_n hx hb dX6_named_7 rfl (lv_at hl 1 rfl) ?_
      refine z_iald C I hw dX6_named_8 (fun v2 hw => ?_)
      refine lv_icmp_ge (tgt := 34) hx hb dX6_named_9 (by decide) (fun c => ?_) (fun c => ?_)
      · have hw := hw.1 c
        refine lv_iconst (v := -1) hx hb dX6_named_34 (by decide) ?_
        exact z_iret C I hr ⟨_, rfl, hw⟩ (Nat.le_of_ble_eq_true rfl) (Nat.le_of_ble_eq_true rfl) dX6_named_35
      · have hw := hw.2 c
        refine lv_aload_n hx hb dX6_named_12 rfl (lv_at hl 0 rfl) ?_
        refine z_getr C I fl_X6_7 hw dX6_named_13 (fun v3 hw => ?_)
        refine lv_iconst (v := 5) hx hb dX6_named_16 (by decide) ?_
        refine lv_iload_n hx hb dX6_named_17 rfl (lv_at hl 1 rfl) ?_
        refine lv_imul hx hb dX6_named_18 ?_
        refine lv_iload_n hx hb dX6_named_19 rfl (lv_at hl 3 rfl) ?_
        refine lv_iadd hx hb dX6_named_20 ?_
        refine z_iald C I hw dX6_named_21 (fun v4 hw => ?_)
        refine lv_iload_n hx hb dX6_named_22 rfl (lv_at hl 2 rfl) ?_
        refine lv_icmp_ne (tgt := 28) hx hb dX6_named_23 (by decide) (fun c => ?_) (fun c => ?_)
        · have hw := hw.1 c
          refine lv_iinc (v := (x3 + 1)) (lv' := [(3, .int (x3 + 1)), (0, .ref o), (1, .int p0), (2, .int p1)]) hx hb dX6_named_28 hl (k := 3) rfl (by rfl) (by decide) rfl (fun ls hl => ?_)
          refine lv_goto (tgt := 2) hx hb dX6_named_31 (by decide) ?_
          refine W.widen (k := 0) (n := 0) (Nat.le_of_ble_eq_true rfl) (Nat.le_of_ble_eq_true rfl) ?_
          exact ih (x3 + 1) _ _ _ ls I (lv_sub hl [1, 2, 3, 0] rfl) hw
        · have hw := hw.2 c
          refine lv_iload_n hx hb dX6_named_26 rfl (lv_at hl 3 rfl) ?_
          exact z_iret C I hr ⟨_, rfl, hw⟩ (Nat.le_of_ble_eq_true rfl) (Nat.le_of_ble_eq_true rfl) dX6_named_27
  refine lv_iconst (v := 0) hx hb dX6_named_0 (by decide) ?_
  refine lv_istore_n (lv' := [(3, .int (0 : Int32)), (0, .ref o), (1, .int p0), (2, .int p1)]) hx hb dX6_named_1 rfl hl (by decide) rfl (fun ls hl => ?_)
  obtain ⟨nn, hw⟩ := hw
  refine W.widen (k := 0) (n := 0) (Nat.le_of_ble_eq_true rfl) (Nat.le_of_ble_eq_true rfl) ?_
  exact hb_2 nn (0 : Int32) _ _ _ ls I (lv_sub hl [1, 2, 3, 0] rfl) hw
set_option maxHeartbeats 4000000 in
set_option maxRecDepth 100000 in
theorem m_X6_errorOfField {X : zX} {l : Launch} (E : zEnv X l) {M : zM} {o : Nat} {p0 : Int32} {p1 : Int32} {p2 : Int32} {p3 : Int32} {P : Int32 → zM → Prop} {PX : Nat → zM → Prop} (hw : w_X6_errorOfField o p0 p1 p2 p3 M P) : zCT X l yX6_errorOfField cX6_errorOfField 7 (some .int) 3 66 0 0 M [.ref o, .int p0, .int p1, .int p2, .int p3] (zPi P) PX := by
  refine z_entry E (by decide) ?_
  intro p e s m args below meth c C hr htab I
  have hx := C.1.1
  have hb := C.1.2.1
  obtain ⟨ls, he, hl⟩ := z_enter (m := m) (n := 7) (vs := [.ref o, .int p0, .int p1, .int p2, .int p3]) (l := [(0, .ref o), (1, .int p0), (2, .int p1), (3, .int p2), (4, .int p3)]) (Nat.le_of_ble_eq_true rfl) rfl
  rw [he]
  clear he
  unfold w_X6_errorOfField at hw
  have hb_116 : ∀ (M : zM) (H : Heap) (locs : List Loc) (ls : Array Slot), zWk X s M H locs → lv_has ls 7 [] → w_X6_errorOfField_116 o p0 p1 p2 p3 P M → W p l e (zRm 3 66 0 0) s m args below meth c H locs 0 0 (vx_MQ below (zQc X (zPi P)) (zXc X PX) args s 0 0 (zBase X)) (F0 m 116 ls []) := by
    intro M H locs ls I hl hw
    unfold w_X6_errorOfField_116 at hw
    refine lv_iconst (v := 3) hx hb dX6_errorOfField_116 (by decide) ?_
    refine lv_goto (tgt := 121) hx hb dX6_errorOfField_117 (by decide) ?_
    exact z_iret C I hr ⟨_, rfl, hw⟩ (Nat.le_of_ble_eq_true rfl) (Nat.le_of_ble_eq_true rfl) dX6_errorOfField_121
  have hb_77 : ∀ (y0 : Int32) (M : zM) (H : Heap) (locs : List Loc) (ls : Array Slot), zWk X s M H locs → lv_has ls 7 [(0, .ref o), (1, .int p0)] → w_X6_errorOfField_77 o p0 p1 p2 p3 P y0 M → W p l e (zRm 3 66 0 0) s m args below meth c H locs 0 0 (vx_MQ below (zQc X (zPi P)) (zXc X PX) args s 0 0 (zBase X)) (F0 m 77 ls [.int y0]) := by
    intro y0 M H locs ls I hl hw
    unfold w_X6_errorOfField_77 at hw
    refine lv_istore (lv' := [(6, .int y0), (0, .ref o), (1, .int p0)]) hx hb dX6_errorOfField_77 hl (by decide) rfl (fun ls hl => ?_)
    refine lv_aload_n hx hb dX6_errorOfField_79 rfl (lv_at hl 1 rfl) ?_
    refine z_getr C I fl_X6_29 hw dX6_errorOfField_80 (fun v1 hw => ?_)
    refine lv_bipush (v := 36) hx hb dX6_errorOfField_83 (by decide) ?_
    refine z_iald C I hw dX6_errorOfField_85 (fun v2 hw => ?_)
    refine lv_iconst (v := 5) hx hb dX6_errorOfField_86 (by decide) ?_
    refine lv_icmp_eq (tgt := 116) hx hb dX6_errorOfField_87 (by decide) (fun c => ?_) (fun c => ?_)
    · have hw := hw.1 c
      refine W.widen (k := 0) (n := 0) (Nat.le_of_ble_eq_true rfl) (Nat.le_of_ble_eq_true rfl) ?_
      exact hb_116 _ _ _ ls I (lv_sub hl [] rfl) hw
    · have hw := hw.2 c
      refine lv_aload_n hx hb dX6_errorOfField_90 rfl (lv_at hl 1 rfl) ?_
      refine lv_bipush (v := 36) hx hb dX6_errorOfField_91 (by decide) ?_
      refine lv_iload_n hx hb dX6_errorOfField_93 rfl (lv_at hl 2 rfl) ?_
      obtain ⟨hrc, hw⟩ := hw
      refine z_callV C I (as := [.int (36 : Int32), .int p0]) (rest := []) (m_X6_named E hw) kv_X6_94 vc_7 hrc rfl rfl hl.1 (Nat.le_of_ble_eq_true rfl) ⟨Nat.le_of_ble_eq_true rfl, Nat.le_of_ble_eq_true rfl⟩ ⟨Nat.le_of_ble_eq_true rfl, Nat.le_of_ble_eq_true rfl⟩ dX6_errorOfField_94 (z_prop C htab (Nat.le_of_ble_eq_true rfl) (Nat.le_of_ble_eq_true rfl)) (fun v M3 _ _ I hv => ?_)
      obtain ⟨v4, rfl, hw⟩ := hv
      refine W.eq (g2 := F0 m 97 ls [.int v4]) rfl ?_
      refine lv_iconst (v := -1) hx hb dX6_errorOfField_97 (by decide) ?_
      refine lv_icmp_ne (tgt := 116) hx hb dX6_errorOfField_98 (by decide) (fun c => ?_) (fun c => ?_)
      · have hw := hw.1 c
        refine W.widen (k := 0) (n := 0) (Nat.le_of_ble_eq_true rfl) (Nat.le_of_ble_eq_true rfl) ?_
        exact hb_116 _ _ _ ls I (lv_sub hl [] rfl) hw
      · have hw := hw.2 c
        refine lv_aload_n hx hb dX6_errorOfField_101 rfl (lv_at hl 1 rfl) ?_
        refine z_getr C I fl_X6_32 hw dX6_errorOfField_102 (fun v5 hw => ?_)
        refine lv_bipush (v := 36) hx hb dX6_errorOfField_105 (by decide) ?_
        refine z_iald C I hw dX6_errorOfField_107 (fun v6 hw => ?_)
        refine lv_iload hx hb dX6_errorOfField_108 (lv_at hl 0 rfl) ?_
        refine lv_iadd hx hb dX6_errorOfField_110 ?_
        refine lv_bipush (v := 20) hx hb dX6_errorOfField_111 (by decide) ?_
        refine lv_icmp_le (tgt := 120) hx hb dX6_errorOfField_113 (by decide) (fun c => ?_) (fun c => ?_)
        · have hw := hw.1 c
          refine lv_iconst (v := 0) hx hb dX6_errorOfField_120 (by decide) ?_
          exact z_iret C I hr ⟨_, rfl, hw⟩ (Nat.le_of_ble_eq_true rfl) (Nat.le_of_ble_eq_true rfl) dX6_errorOfField_121
        · have hw := hw.2 c
          refine W.widen (k := 0) (n := 0) (Nat.le_of_ble_eq_true rfl) (Nat.le_of_ble_eq_true rfl) ?_
          exact hb_116 _ _ _ ls I (lv_sub hl [] rfl) hw
  have hb_58 : ∀ (x5 : Int32) (M : zM) (H : Heap) (locs : List Loc) (ls : Array Slot), zWk X s M H locs → lv_has ls 7 [(0, .ref o), (1, .int p0), (3, .int p2), (5, .int x5)] → w_X6_errorOfField_58 o p0 p1 p2 p3 P x5 M → W p l e (zRm 3 66 0 0) s m args below meth c H locs 0 0 (vx_MQ below (zQc X (zPi P)) (zXc X PX) args s 0 0 (zBase X)) (F0 m 58 ls []) := by
    intro x5 M H locs ls I hl hw
    unfold w_X6_errorOfField_58 at hw
    refine lv_iload hx hb dX6_errorOfField_58 (lv_at hl 3 rfl) ?_
    refine lv_if_eq (tgt := 76) hx hb dX6_errorOfField_60 (by decide) (fun c => ?_) (fun c => ?_)
    · have hw := hw.1 c
      refine lv_iconst (v := 1) hx hb dX6_errorOfField_76 (by decide) ?_
      refine W.widen (k := 0) (n := 0) (Nat.le_of_ble_eq_true rfl) (Nat.le_of_ble_eq_true rfl) ?_
      exact hb_77 (1 : Int32) _ _ _ ls I (lv_sub hl [0, 1] rfl) hw
    · have hw := hw.2 c
      refine lv_aload_n hx hb dX6_errorOfField_63 rfl (lv_at hl 0 rfl) ?_
      refine z_getr C I fl_X6_32 hw dX6_errorOfField_64 (fun v7 hw => ?_)
      refine lv_aload_n hx hb dX6_errorOfField_67 rfl (lv_at hl 0 rfl) ?_
      refine lv_iload_n hx hb dX6_errorOfField_68 rfl (lv_at hl 2 rfl) ?_
      obtain ⟨hrc, hw⟩ := hw
      refine z_callV C I (as := [.int p2]) (rest := [.ref v7]) (m_X6_schemaOf E hw) kv_X6_90 vc_7 hrc rfl rfl hl.1 (Nat.le_of_ble_eq_true rfl) ⟨Nat.le_of_ble_eq_true rfl, Nat.le_of_ble_eq_true rfl⟩ ⟨Nat.le_of_ble_eq_true rfl, Nat.le_of_ble_eq_true rfl⟩ dX6_errorOfField_69 (z_prop C htab (Nat.le_of_ble_eq_true rfl) (Nat.le_of_ble_eq_true rfl)) (fun v M8 _ _ I hv => ?_)
      obtain ⟨v9, rfl, hw⟩ := hv
      refine W.eq (g2 := F0 m 72 ls [.int v9, .ref v7]) rfl ?_
      refine z_iald C I hw dX6_errorOfField_72 (fun v10 hw => ?_)
      refine lv_goto (tgt := 77) hx hb dX6_errorOfField_73 (by decide) ?_
      refine W.widen (k := 0) (n := 0) (Nat.le_of_ble_eq_true rfl) (Nat.le_of_ble_eq_true rfl) ?_
      exact hb_77 v10 _ _ _ ls I (lv_sub hl [0, 1] rfl) hw
  have hb_24 : ∀ (y0 : Int32) (M : zM) (H : Heap) (locs : List Loc) (ls : Array Slot), zWk X s M H locs → lv_has ls 7 [(0, .ref o), (1, .int p0), (3, .int p2)] → w_X6_errorOfField_24 o p0 p1 p2 p3 P y0 M → W p l e (zRm 3 66 0 0) s m args below meth c H locs 0 0 (vx_MQ below (zQc X (zPi P)) (zXc X PX) args s 0 0 (zBase X)) (F0 m 24 ls [.int y0]) := by
    intro y0 M H locs ls I hl hw
    unfold w_X6_errorOfField_24 at hw
    refine lv_istore (lv' := [(5, .int y0), (0, .ref o), (1, .int p0), (3, .int p2)]) hx hb dX6_errorOfField_24 hl (by decide) rfl (fun ls hl => ?_)
    refine lv_iload hx hb dX6_errorOfField_26 (lv_at hl 0 rfl) ?_
    refine lv_if_eq (tgt := 58) hx hb dX6_errorOfField_28 (by decide) (fun c => ?_) (fun c => ?_)
    · have hw := hw.1 c
      refine W.widen (k := 0) (n := 0) (Nat.le_of_ble_eq_true rfl) (Nat.le_of_ble_eq_true rfl) ?_
      exact hb_58 y0 _ _ _ ls I (lv_sub hl [1, 2, 3, 0] rfl) hw
    · have hw := hw.2 c
      refine lv_iload_n hx hb dX6_errorOfField_31 rfl (lv_at hl 3 rfl) ?_
      refine lv_iconst (v := 0) hx hb dX6_errorOfField_32 (by decide) ?_
      refine lv_bipush (v := 59) hx hb dX6_errorOfField_33 (by decide) ?_
      refine z_callS C I (as := [.int p2, .int (0 : Int32), .int (59 : Int32)]) (rest := []) (m_X6_in E hw) ks_X6_75 rfl rfl hl.1 (Nat.le_of_ble_eq_true rfl) ⟨Nat.le_of_ble_eq_true rfl, Nat.le_of_ble_eq_true rfl⟩ ⟨Nat.le_of_ble_eq_true rfl, Nat.le_of_ble_eq_true rfl⟩ dX6_errorOfField_35 (z_prop C htab (Nat.le_of_ble_eq_true rfl) (Nat.le_of_ble_eq_true rfl)) (fun v M11 _ _ I hv => ?_)
      obtain ⟨v12, rfl, hv12, hw⟩ := hv
      refine W.eq (g2 := F0 m 38 ls [.int v12]) rfl ?_
      refine lv_if_eq (tgt := 56) hx hb dX6_errorOfField_38 (by decide) (fun c => ?_) (fun c => ?_)
      · have hw := hw.1 c
        refine lv_iconst (v := 2) hx hb dX6_errorOfField_56 (by decide) ?_
        exact z_iret C I hr ⟨_, rfl, hw⟩ (Nat.le_of_ble_eq_true rfl) (Nat.le_of_ble_eq_true rfl) dX6_errorOfField_57
      · have hw := hw.2 c
        refine lv_aload_n hx hb dX6_errorOfField_41 rfl (lv_at hl 1 rfl) ?_
        refine lv_iload_n hx hb dX6_errorOfField_42 rfl (lv_at hl 3 rfl) ?_
        refine lv_bipush (v := 10) hx hb dX6_errorOfField_43 (by decide) ?_
        refine lv_idiv hx hb dX6_errorOfField_45 (by decide) ?_
        refine lv_iload_n hx hb dX6_errorOfField_46 rfl (lv_at hl 3 rfl) ?_
        refine lv_bipush (v := 10) hx hb dX6_errorOfField_47 (by decide) ?_
        refine lv_irem hx hb dX6_errorOfField_49 (by decide) ?_
        obtain ⟨hrc, hw⟩ := hw
        refine z_callV C I (as := [.int (p2 / (10 : Int32)), .int (p2 - p2 / (10 : Int32) * (10 : Int32))]) (rest := []) (m_X6_isThereAt E hw) kv_X6_87 vc_7 hrc rfl rfl hl.1 (Nat.le_of_ble_eq_true rfl) ⟨Nat.le_of_ble_eq_true rfl, Nat.le_of_ble_eq_true rfl⟩ ⟨Nat.le_of_ble_eq_true rfl, Nat.le_of_ble_eq_true rfl⟩ dX6_errorOfField_50 (z_prop C htab (Nat.le_of_ble_eq_true rfl) (Nat.le_of_ble_eq_true rfl)) (fun v M13 _ _ I hv => ?_)
        obtain ⟨v14, rfl, hv14, hw⟩ := hv
        refine W.eq (g2 := F0 m 53 ls [.int v14]) rfl ?_
        refine lv_if_ne (tgt := 58) hx hb dX6_errorOfField_53 (by decide) (fun c => ?_) (fun c => ?_)
        · have hw := hw.1 c
          refine W.widen (k := 0) (n := 0) (Nat.le_of_ble_eq_true rfl) (Nat.le_of_ble_eq_true rfl) ?_
          exact hb_58 y0 _ _ _ ls I (lv_sub hl [1, 2, 3, 0] rfl) hw
        · have hw := hw.2 c
          refine lv_iconst (v := 2) hx hb dX6_errorOfField_56 (by decide) ?_
          exact z_iret C I hr ⟨_, rfl, hw⟩ (Nat.le_of_ble_eq_true rfl) (Nat.le_of_ble_eq_true rfl) dX6_errorOfField_57
  refine lv_aload_n hx hb dX6_errorOfField_0 rfl (lv_at hl 0 rfl) ?_
  refine lv_iload_n hx hb dX6_errorOfField_1 rfl (lv_at hl 1 rfl) ?_
  refine lv_iload_n hx hb dX6_errorOfField_2 rfl (lv_at hl 2 rfl) ?_
  refine lv_iload_n hx hb dX6_errorOfField_3 rfl (lv_at hl 3 rfl) ?_
  refine lv_iload hx hb dX6_errorOfField_4 (lv_at hl 4 rfl) ?_
  obtain ⟨hrc, hw⟩ := hw
  refine z_callV C I (as := [.int p0, .int p1, .int p2, .int p3]) (rest := []) (m_X6_isRange E hw) kv_X6_83 vc_7 hrc rfl rfl hl.1 (Nat.le_of_ble_eq_true rfl) ⟨Nat.le_of_ble_eq_true rfl, Nat.le_of_ble_eq_true rfl⟩ ⟨Nat.le_of_ble_eq_true rfl, Nat.le_of_ble_eq_true rfl⟩ dX6_errorOfField_6 (z_prop C htab (Nat.le_of_ble_eq_true rfl) (Nat.le_of_ble_eq_true rfl)) (fun v M15 _ _ I hv => ?_)
  obtain ⟨v16, rfl, hv16, hw⟩ := hv
  refine W.eq (g2 := F0 m 9 ls [.int v16]) rfl ?_
  refine lv_if_ne (tgt := 14) hx hb dX6_errorOfField_9 (by decide) (fun c => ?_) (fun c => ?_)
  · have hw := hw.1 c
    refine lv_iload_n hx hb dX6_errorOfField_14 rfl (lv_at hl 2 rfl) ?_
    refine lv_iconst (v := 4) hx hb dX6_errorOfField_15 (by decide) ?_
    refine lv_icmp_ne (tgt := 23) hx hb dX6_errorOfField_16 (by decide) (fun c => ?_) (fun c => ?_)
    · have hw := hw.1 c
      refine lv_iconst (v := 0) hx hb dX6_errorOfField_23 (by decide) ?_
      refine W.widen (k := 0) (n := 0) (Nat.le_of_ble_eq_true rfl) (Nat.le_of_ble_eq_true rfl) ?_
      exact hb_24 (0 : Int32) _ _ _ ls I (lv_sub hl [0, 1, 3] rfl) hw
    · have hw := hw.2 c
      refine lv_iconst (v := 1) hx hb dX6_errorOfField_19 (by decide) ?_
      refine lv_goto (tgt := 24) hx hb dX6_errorOfField_20 (by decide) ?_
      refine W.widen (k := 0) (n := 0) (Nat.le_of_ble_eq_true rfl) (Nat.le_of_ble_eq_true rfl) ?_
      exact hb_24 (1 : Int32) _ _ _ ls I (lv_sub hl [0, 1, 3] rfl) hw
  · have hw := hw.2 c
    refine lv_iconst (v := 1) hx hb dX6_errorOfField_12 (by decide) ?_
    exact z_iret C I hr ⟨_, rfl, hw⟩ (Nat.le_of_ble_eq_true rfl) (Nat.le_of_ble_eq_true rfl) dX6_errorOfField_13
set_option maxHeartbeats 4000000 in
set_option maxRecDepth 100000 in
theorem m_X6_field {X : zX} {l : Launch} (E : zEnv X l) {M : zM} {o : Nat} {p0 : Int32} {p1 : Int32} {p2 : Int32} {p3 : Int32} {P : Int32 → zM → Prop} {PX : Nat → zM → Prop} (hw : w_X6_field o p0 p1 p2 p3 M P) : zCT X l yX6_field cX6_field 6 (some .int) 4 92 0 0 M [.ref o, .int p0, .int p1, .int p2, .int p3] (zPi P) PX := by
  refine z_entry E (by decide) ?_
  intro p e s m args below meth c C hr htab I
  have hx := C.1.1
  have hb := C.1.2.1
  obtain ⟨ls, he, hl⟩ := z_enter (m := m) (n := 6) (vs := [.ref o, .int p0, .int p1, .int p2, .int p3]) (l := [(0, .ref o), (1, .int p0), (2, .int p1), (3, .int p2), (4, .int p3)]) (Nat.le_of_ble_eq_true rfl) rfl
  rw [he]
  clear he
  unfold w_X6_field at hw
  have hb_116 : ∀ (y0 : Int32) (y1 : Int32) (y2 : Int32) (y3 : Nat) (M : zM) (H : Heap) (locs : List Loc) (ls : Array Slot), zWk X s M H locs → lv_has ls 6 [(0, .ref o)] → w_X6_field_116 o p0 p1 p2 p3 P y0 y1 y2 y3 M → W p l e (zRm 4 92 0 0) s m args below meth c H locs 0 0 (vx_MQ below (zQc X (zPi P)) (zXc X PX) args s 0 0 (zBase X)) (F0 m 116 ls [.int y0, .int y1, .int y2, .ref y3]) := by
    intro y0 y1 y2 y3 M H locs ls I hl hw
    unfold w_X6_field_116 at hw
    refine lv_iadd hx hb dX6_field_116 ?_
    refine z_iast C I hw dX6_field_117 (fun M1 _ _ I hw => ?_)
    refine lv_aload_n hx hb dX6_field_118 rfl (lv_at hl 0 rfl) ?_
    refine z_getr C I fl_X6_29 hw dX6_field_119 (fun v2 hw => ?_)
    refine lv_bipush (v := 36) hx hb dX6_field_122 (by decide) ?_
    refine lv_dup2_11 hx hb dX6_field_124 rfl rfl ?_
    refine z_iald C I hw dX6_field_125 (fun v3 hw => ?_)
    refine lv_iconst (v := 1) hx hb dX6_field_126 (by decide) ?_
    refine lv_iadd hx hb dX6_field_127 ?_
    refine z_iast C I hw dX6_field_128 (fun M4 _ _ I hw => ?_)
    refine lv_aload_n hx hb dX6_field_129 rfl (lv_at hl 0 rfl) ?_
    refine z_getr C I fl_X6_29 hw dX6_field_130 (fun v5 hw => ?_)
    refine lv_bipush (v := 36) hx hb dX6_field_133 (by decide) ?_
    refine z_iald C I hw dX6_field_135 (fun v6 hw => ?_)
    exact z_iret C I hr ⟨_, rfl, hw⟩ (Nat.le_of_ble_eq_true rfl) (Nat.le_of_ble_eq_true rfl) dX6_field_136
  have hb_63 : ∀ (x5 : Int32) (y0 : Int32) (y1 : Int32) (y2 : Nat) (M : zM) (H : Heap) (locs : List Loc) (ls : Array Slot), zWk X s M H locs → lv_has ls 6 [(0, .ref o), (2, .int p1), (3, .int p2), (4, .int p3), (5, .int x5)] → w_X6_field_63 o p0 p1 p2 p3 P x5 y0 y1 y2 M → W p l e (zRm 4 92 0 0) s m args below meth c H locs 0 0 (vx_MQ below (zQc X (zPi P)) (zXc X PX) args s 0 0 (zBase X)) (F0 m 63 ls [.int y0, .int y1, .ref y2]) := by
    intro x5 y0 y1 y2 M H locs ls I hl hw
    unfold w_X6_field_63 at hw
    refine z_iast C I hw dX6_field_63 (fun M7 _ _ I hw => ?_)
    refine lv_aload_n hx hb dX6_field_64 rfl (lv_at hl 0 rfl) ?_
    refine z_getr C I fl_X6_19 hw dX6_field_65 (fun v8 hw => ?_)
    refine lv_iload hx hb dX6_field_68 (lv_at hl 4 rfl) ?_
    refine lv_iload hx hb dX6_field_70 (lv_at hl 3 rfl) ?_
    refine z_iast C I hw dX6_field_72 (fun M9 _ _ I hw => ?_)
    refine lv_aload_n hx hb dX6_field_73 rfl (lv_at hl 0 rfl) ?_
    refine z_getr C I fl_X6_22 hw dX6_field_74 (fun v10 hw => ?_)
    refine lv_iload hx hb dX6_field_77 (lv_at hl 4 rfl) ?_
    refine lv_iconst (v := 0) hx hb dX6_field_79 (by decide) ?_
    refine z_zast C I hw dX6_field_80 (fun M11 _ _ I hw => ?_)
    refine lv_aload_n hx hb dX6_field_81 rfl (lv_at hl 0 rfl) ?_
    refine z_getr C I fl_X6_26 hw dX6_field_82 (fun v12 hw => ?_)
    refine lv_iload hx hb dX6_field_85 (lv_at hl 4 rfl) ?_
    refine lv_iconst (v := 0) hx hb dX6_field_87 (by decide) ?_
    refine z_iast C I hw dX6_field_88 (fun M13 _ _ I hw => ?_)
    refine lv_aload_n hx hb dX6_field_89 rfl (lv_at hl 0 rfl) ?_
    refine z_getr C I fl_X6_32 hw dX6_field_90 (fun v14 hw => ?_)
    refine lv_bipush (v := 36) hx hb dX6_field_93 (by decide) ?_
    refine lv_dup2_11 hx hb dX6_field_95 rfl rfl ?_
    refine z_iald C I hw dX6_field_96 (fun v15 hw => ?_)
    refine lv_iload_n hx hb dX6_field_97 rfl (lv_at hl 1 rfl) ?_
    refine lv_iconst (v := 4) hx hb dX6_field_98 (by decide) ?_
    refine lv_icmp_ne (tgt := 115) hx hb dX6_field_99 (by decide) (fun c => ?_) (fun c => ?_)
    · have hw := hw.1 c
      refine lv_iconst (v := 1) hx hb dX6_field_115 (by decide) ?_
      refine W.widen (k := 0) (n := 0) (Nat.le_of_ble_eq_true rfl) (Nat.le_of_ble_eq_true rfl) ?_
      exact hb_116 (1 : Int32) v15 (36 : Int32) v14 _ _ _ ls I (lv_sub hl [0] rfl) hw
    · have hw := hw.2 c
      refine lv_aload_n hx hb dX6_field_102 rfl (lv_at hl 0 rfl) ?_
      refine z_getr C I fl_X6_32 hw dX6_field_103 (fun v16 hw => ?_)
      refine lv_aload_n hx hb dX6_field_106 rfl (lv_at hl 0 rfl) ?_
      refine lv_iload_n hx hb dX6_field_107 rfl (lv_at hl 2 rfl) ?_
      obtain ⟨hrc, hw⟩ := hw
      refine z_callV C I (as := [.int p2]) (rest := [.ref v16, .int v15, .int (36 : Int32), .ref v14]) (m_X6_schemaOf E hw) kv_X6_90 vc_7 hrc rfl rfl hl.1 (Nat.le_of_ble_eq_true rfl) ⟨Nat.le_of_ble_eq_true rfl, Nat.le_of_ble_eq_true rfl⟩ ⟨Nat.le_of_ble_eq_true rfl, Nat.le_of_ble_eq_true rfl⟩ dX6_field_108 (z_prop C htab (Nat.le_of_ble_eq_true rfl) (Nat.le_of_ble_eq_true rfl)) (fun v M17 _ _ I hv => ?_)
      obtain ⟨v18, rfl, hw⟩ := hv
      refine W.eq (g2 := F0 m 111 ls [.int v18, .ref v16, .int v15, .int (36 : Int32), .ref v14]) rfl ?_
      refine z_iald C I hw dX6_field_111 (fun v19 hw => ?_)
      refine lv_goto (tgt := 116) hx hb dX6_field_112 (by decide) ?_
      refine W.widen (k := 0) (n := 0) (Nat.le_of_ble_eq_true rfl) (Nat.le_of_ble_eq_true rfl) ?_
      exact hb_116 v19 v15 (36 : Int32) v14 _ _ _ ls I (lv_sub hl [0] rfl) hw
  refine lv_aload_n hx hb dX6_field_0 rfl (lv_at hl 0 rfl) ?_
  refine lv_aload_n hx hb dX6_field_1 rfl (lv_at hl 0 rfl) ?_
  refine lv_iload_n hx hb dX6_field_2 rfl (lv_at hl 1 rfl) ?_
  refine lv_iload_n hx hb dX6_field_3 rfl (lv_at hl 2 rfl) ?_
  refine lv_iload_n hx hb dX6_field_4 rfl (lv_at hl 3 rfl) ?_
  refine lv_iload hx hb dX6_field_5 (lv_at hl 4 rfl) ?_
  obtain ⟨hrc, hw⟩ := hw
  refine z_callV C I (as := [.int p0, .int p1, .int p2, .int p3]) (rest := [.ref o]) (m_X6_errorOfField E hw) kv_X6_98 vc_7 hrc rfl rfl hl.1 (Nat.le_of_ble_eq_true rfl) ⟨Nat.le_of_ble_eq_true rfl, Nat.le_of_ble_eq_true rfl⟩ ⟨Nat.le_of_ble_eq_true rfl, Nat.le_of_ble_eq_true rfl⟩ dX6_field_7 (z_prop C htab (Nat.le_of_ble_eq_true rfl) (Nat.le_of_ble_eq_true rfl)) (fun v M20 _ _ I hv => ?_)
  obtain ⟨v21, rfl, hw⟩ := hv
  refine W.eq (g2 := F0 m 10 ls [.int v21, .ref o]) rfl ?_
  obtain ⟨hrc, hw⟩ := hw
  refine z_callV C I (as := [.int v21]) (rest := []) (m_X6_holds E hw) kv_X6_102 vc_7 hrc rfl rfl hl.1 (Nat.le_of_ble_eq_true rfl) ⟨Nat.le_of_ble_eq_true rfl, Nat.le_of_ble_eq_true rfl⟩ ⟨Nat.le_of_ble_eq_true rfl, Nat.le_of_ble_eq_true rfl⟩ dX6_field_10 (z_prop C htab (Nat.le_of_ble_eq_true rfl) (Nat.le_of_ble_eq_true rfl)) (fun v M22 _ _ I hv => ?_)
  obtain ⟨v23, rfl, hv23, hw⟩ := hv
  refine W.eq (g2 := F0 m 13 ls [.int v23]) rfl ?_
  refine lv_if_ne (tgt := 18) hx hb dX6_field_13 (by decide) (fun c => ?_) (fun c => ?_)
  · have hw := hw.1 c
    refine lv_sipush (v := 180) hx hb dX6_field_18 (by decide) ?_
    refine lv_aload_n hx hb dX6_field_21 rfl (lv_at hl 0 rfl) ?_
    refine z_getr C I fl_X6_29 hw dX6_field_22 (fun v24 hw => ?_)
    refine lv_bipush (v := 36) hx hb dX6_field_25 (by decide) ?_
    refine z_iald C I hw dX6_field_27 (fun v25 hw => ?_)
    refine lv_iadd hx hb dX6_field_28 ?_
    refine lv_istore (lv' := [(5, .int ((180 : Int32) + v25)), (0, .ref o), (1, .int p0), (2, .int p1), (3, .int p2), (4, .int p3)]) hx hb dX6_field_29 hl (by decide) rfl (fun ls hl => ?_)
    refine lv_aload_n hx hb dX6_field_31 rfl (lv_at hl 1 rfl) ?_
    refine z_getr C I fl_X6_7 hw dX6_field_32 (fun v26 hw => ?_)
    refine lv_iload hx hb dX6_field_35 (lv_at hl 0 rfl) ?_
    refine lv_iload_n hx hb dX6_field_37 rfl (lv_at hl 2 rfl) ?_
    refine z_iast C I hw dX6_field_38 (fun M27 _ _ I hw => ?_)
    refine lv_aload_n hx hb dX6_field_39 rfl (lv_at hl 1 rfl) ?_
    refine z_getr C I fl_X6_13 hw dX6_field_40 (fun v28 hw => ?_)
    refine lv_iload hx hb dX6_field_43 (lv_at hl 0 rfl) ?_
    refine lv_iload_n hx hb dX6_field_45 rfl (lv_at hl 3 rfl) ?_
    refine z_iast C I hw dX6_field_46 (fun M29 _ _ I hw => ?_)
    refine lv_aload_n hx hb dX6_field_47 rfl (lv_at hl 1 rfl) ?_
    refine z_getr C I fl_X6_16 hw dX6_field_48 (fun v30 hw => ?_)
    refine lv_iload hx hb dX6_field_51 (lv_at hl 0 rfl) ?_
    refine lv_iload_n hx hb dX6_field_53 rfl (lv_at hl 3 rfl) ?_
    refine lv_iconst (v := 2) hx hb dX6_field_54 (by decide) ?_
    refine lv_icmp_le (tgt := 62) hx hb dX6_field_55 (by decide) (fun c => ?_) (fun c => ?_)
    · have hw := hw.1 c
      refine lv_iconst (v := 0) hx hb dX6_field_62 (by decide) ?_
      refine W.widen (k := 0) (n := 0) (Nat.le_of_ble_eq_true rfl) (Nat.le_of_ble_eq_true rfl) ?_
      exact hb_63 ((180 : Int32) + v25) (0 : Int32) ((180 : Int32) + v25) v30 _ _ _ ls I (lv_sub hl [1, 3, 4, 5, 0] rfl) hw
    · have hw := hw.2 c
      refine lv_iload_n hx hb dX6_field_58 rfl (lv_at hl 4 rfl) ?_
      refine lv_goto (tgt := 63) hx hb dX6_field_59 (by decide) ?_
      refine W.widen (k := 0) (n := 0) (Nat.le_of_ble_eq_true rfl) (Nat.le_of_ble_eq_true rfl) ?_
      exact hb_63 ((180 : Int32) + v25) p2 ((180 : Int32) + v25) v30 _ _ _ ls I (lv_sub hl [1, 3, 4, 5, 0] rfl) hw
  · have hw := hw.2 c
    refine lv_iconst (v := 0) hx hb dX6_field_16 (by decide) ?_
    exact z_iret C I hr ⟨_, rfl, hw⟩ (Nat.le_of_ble_eq_true rfl) (Nat.le_of_ble_eq_true rfl) dX6_field_17
set_option maxHeartbeats 4000000 in
set_option maxRecDepth 100000 in
theorem m_X6_isValue {X : zX} {l : Launch} (E : zEnv X l) {M : zM} {o : Nat} {p0 : Int32} {p1 : Int32} {P : Int32 → zM → Prop} {PX : Nat → zM → Prop} (hw : w_X6_isValue o p0 p1 M P) : zCT X l yX6_isValue cX6_isValue 4 (some .boolean) 1 22 0 0 M [.ref o, .int p0, .int p1] (zPz P) PX := by
  refine z_entry E (by decide) ?_
  intro p e s m args below meth c C hr htab I
  have hx := C.1.1
  have hb := C.1.2.1
  obtain ⟨ls, he, hl⟩ := z_enter (m := m) (n := 4) (vs := [.ref o, .int p0, .int p1]) (l := [(0, .ref o), (1, .int p0), (2, .int p1)]) (Nat.le_of_ble_eq_true rfl) rfl
  rw [he]
  clear he
  unfold w_X6_isValue at hw
  have hb_37 : ∀ (M : zM) (H : Heap) (locs : List Loc) (ls : Array Slot), zWk X s M H locs → lv_has ls 4 [] → w_X6_isValue_37 o p0 p1 P M → W p l e (zRm 1 22 0 0) s m args below meth c H locs 0 0 (vx_MQ below (zQc X (zPz P)) (zXc X PX) args s 0 0 (zBase X)) (F0 m 37 ls []) := by
    intro M H locs ls I hl hw
    unfold w_X6_isValue_37 at hw
    refine lv_iconst (v := 1) hx hb dX6_isValue_37 (by decide) ?_
    refine lv_goto (tgt := 42) hx hb dX6_isValue_38 (by decide) ?_
    exact z_zret C I hr (Or.inr rfl) ⟨_, rfl, (Or.inr rfl), hw⟩ (Nat.le_of_ble_eq_true rfl) (Nat.le_of_ble_eq_true rfl) dX6_isValue_42
  have hb_31 : ∀ (y0 : Int32) (y1 : Int32) (y2 : Int32) (M : zM) (H : Heap) (locs : List Loc) (ls : Array Slot), zWk X s M H locs → lv_has ls 4 [] → w_X6_isValue_31 o p0 p1 P y0 y1 y2 M → W p l e (zRm 1 22 0 0) s m args below meth c H locs 0 0 (vx_MQ below (zQc X (zPz P)) (zXc X PX) args s 0 0 (zBase X)) (F0 m 31 ls [.int y0, .int y1, .int y2]) := by
    intro y0 y1 y2 M H locs ls I hl hw
    unfold w_X6_isValue_31 at hw
    refine z_callS C I (as := [.int y2, .int y1, .int y0]) (rest := []) (m_X6_in E hw) ks_X6_75 rfl rfl hl.1 (Nat.le_of_ble_eq_true rfl) ⟨Nat.le_of_ble_eq_true rfl, Nat.le_of_ble_eq_true rfl⟩ ⟨Nat.le_of_ble_eq_true rfl, Nat.le_of_ble_eq_true rfl⟩ dX6_isValue_31 (z_prop C htab (Nat.le_of_ble_eq_true rfl) (Nat.le_of_ble_eq_true rfl)) (fun v M1 _ _ I hv => ?_)
    obtain ⟨v2, rfl, hv2, hw⟩ := hv
    refine W.eq (g2 := F0 m 34 ls [.int v2]) rfl ?_
    refine lv_if_eq (tgt := 41) hx hb dX6_isValue_34 (by decide) (fun c => ?_) (fun c => ?_)
    · have hw := hw.1 c
      refine lv_iconst (v := 0) hx hb dX6_isValue_41 (by decide) ?_
      exact z_zret C I hr (Or.inl rfl) ⟨_, rfl, (Or.inl rfl), hw⟩ (Nat.le_of_ble_eq_true rfl) (Nat.le_of_ble_eq_true rfl) dX6_isValue_42
    · have hw := hw.2 c
      refine W.widen (k := 0) (n := 0) (Nat.le_of_ble_eq_true rfl) (Nat.le_of_ble_eq_true rfl) ?_
      exact hb_37 _ _ _ ls I (lv_sub hl [] rfl) hw
  refine lv_aload_n hx hb dX6_isValue_0 rfl (lv_at hl 0 rfl) ?_
  refine z_getr C I fl_X6_13 hw dX6_isValue_1 (fun v3 hw => ?_)
  refine lv_iload_n hx hb dX6_isValue_4 rfl (lv_at hl 1 rfl) ?_
  refine z_iald C I hw dX6_isValue_5 (fun v4 hw => ?_)
  refine lv_istore_n (lv' := [(3, .int v4), (0, .ref o), (1, .int p0), (2, .int p1)]) hx hb dX6_isValue_6 rfl hl (by decide) rfl (fun ls hl => ?_)
  refine lv_iload_n hx hb dX6_isValue_7 rfl (lv_at hl 0 rfl) ?_
  refine lv_iconst (v := 2) hx hb dX6_isValue_8 (by decide) ?_
  refine lv_icmp_lt (tgt := 37) hx hb dX6_isValue_9 (by decide) (fun c => ?_) (fun c => ?_)
  · have hw := hw.1 c
    refine W.widen (k := 0) (n := 0) (Nat.le_of_ble_eq_true rfl) (Nat.le_of_ble_eq_true rfl) ?_
    exact hb_37 _ _ _ ls I (lv_sub hl [] rfl) hw
  · have hw := hw.2 c
    refine lv_iload_n hx hb dX6_isValue_12 rfl (lv_at hl 3 rfl) ?_
    refine lv_iconst (v := 0) hx hb dX6_isValue_13 (by decide) ?_
    refine lv_iload_n hx hb dX6_isValue_14 rfl (lv_at hl 0 rfl) ?_
    refine lv_iconst (v := 2) hx hb dX6_isValue_15 (by decide) ?_
    refine lv_icmp_ne (tgt := 23) hx hb dX6_isValue_16 (by decide) (fun c => ?_) (fun c => ?_)
    · have hw := hw.1 c
      refine lv_aload_n hx hb dX6_isValue_23 rfl (lv_at hl 1 rfl) ?_
      refine z_getr C I fl_X6_16 hw dX6_isValue_24 (fun v5 hw => ?_)
      refine lv_iload_n hx hb dX6_isValue_27 rfl (lv_at hl 2 rfl) ?_
      refine z_iald C I hw dX6_isValue_28 (fun v6 hw => ?_)
      refine lv_iconst (v := 1) hx hb dX6_isValue_29 (by decide) ?_
      refine lv_isub hx hb dX6_isValue_30 ?_
      refine W.widen (k := 0) (n := 0) (Nat.le_of_ble_eq_true rfl) (Nat.le_of_ble_eq_true rfl) ?_
      exact hb_31 (v6 - (1 : Int32)) (0 : Int32) p1 _ _ _ ls I (lv_sub hl [] rfl) hw
    · have hw := hw.2 c
      refine lv_iconst (v := 1) hx hb dX6_isValue_19 (by decide) ?_
      refine lv_goto (tgt := 31) hx hb dX6_isValue_20 (by decide) ?_
      refine W.widen (k := 0) (n := 0) (Nat.le_of_ble_eq_true rfl) (Nat.le_of_ble_eq_true rfl) ?_
      exact hb_31 (1 : Int32) (0 : Int32) p1 _ _ _ ls I (lv_sub hl [] rfl) hw
set_option maxHeartbeats 4000000 in
set_option maxRecDepth 100000 in
theorem m_X6_byDefault {X : zX} {l : Launch} (E : zEnv X l) {M : zM} {o : Nat} {p0 : Int32} {P : Int32 → zM → Prop} {PX : Nat → zM → Prop} (hw : w_X6_byDefault o p0 M P) : zCT X l yX6_byDefault cX6_byDefault 3 (some .int) 2 45 0 0 M [.ref o, .int p0] (zPi P) PX := by
  refine z_entry E (by decide) ?_
  intro p e s m args below meth c C hr htab I
  have hx := C.1.1
  have hb := C.1.2.1
  obtain ⟨ls, he, hl⟩ := z_enter (m := m) (n := 3) (vs := [.ref o, .int p0]) (l := [(0, .ref o), (1, .int p0)]) (Nat.le_of_ble_eq_true rfl) rfl
  rw [he]
  clear he
  unfold w_X6_byDefault at hw
  have hb_53 : ∀ (x2 : Int32) (y0 : Int32) (y1 : Nat) (M : zM) (H : Heap) (locs : List Loc) (ls : Array Slot), zWk X s M H locs → lv_has ls 3 [(0, .ref o), (1, .int p0), (2, .int x2)] → w_X6_byDefault_53 o p0 P x2 y0 y1 M → W p l e (zRm 2 45 0 0) s m args below meth c H locs 0 0 (vx_MQ below (zQc X (zPi P)) (zXc X PX) args s 0 0 (zBase X)) (F0 m 53 ls [.int y0, .ref y1]) := by
    intro x2 y0 y1 M H locs ls I hl hw
    unfold w_X6_byDefault_53 at hw
    obtain ⟨hrc, hw⟩ := hw
    refine z_callV C I (as := [.int y0]) (rest := []) (m_X6_holds E hw) kv_X6_102 vc_7 hrc rfl rfl hl.1 (Nat.le_of_ble_eq_true rfl) ⟨Nat.le_of_ble_eq_true rfl, Nat.le_of_ble_eq_true rfl⟩ ⟨Nat.le_of_ble_eq_true rfl, Nat.le_of_ble_eq_true rfl⟩ dX6_byDefault_53 (z_prop C htab (Nat.le_of_ble_eq_true rfl) (Nat.le_of_ble_eq_true rfl)) (fun v M1 _ _ I hv => ?_)
    obtain ⟨v2, rfl, hv2, hw⟩ := hv
    refine W.eq (g2 := F0 m 56 ls [.int v2]) rfl ?_
    refine lv_if_ne (tgt := 61) hx hb dX6_byDefault_56 (by decide) (fun c => ?_) (fun c => ?_)
    · have hw := hw.1 c
      refine lv_aload_n hx hb dX6_byDefault_61 rfl (lv_at hl 0 rfl) ?_
      refine z_getr C I fl_X6_22 hw dX6_byDefault_62 (fun v3 hw => ?_)
      refine lv_iload_n hx hb dX6_byDefault_65 rfl (lv_at hl 2 rfl) ?_
      refine lv_iconst (v := 1) hx hb dX6_byDefault_66 (by decide) ?_
      refine z_zast C I hw dX6_byDefault_67 (fun M4 _ _ I hw => ?_)
      refine lv_aload_n hx hb dX6_byDefault_68 rfl (lv_at hl 0 rfl) ?_
      refine z_getr C I fl_X6_26 hw dX6_byDefault_69 (fun v5 hw => ?_)
      refine lv_iload_n hx hb dX6_byDefault_72 rfl (lv_at hl 2 rfl) ?_
      refine lv_iload_n hx hb dX6_byDefault_73 rfl (lv_at hl 1 rfl) ?_
      refine z_iast C I hw dX6_byDefault_74 (fun M6 _ _ I hw => ?_)
      refine lv_aload_n hx hb dX6_byDefault_75 rfl (lv_at hl 0 rfl) ?_
      refine z_getr C I fl_X6_7 hw dX6_byDefault_76 (fun v7 hw => ?_)
      refine lv_iload_n hx hb dX6_byDefault_79 rfl (lv_at hl 2 rfl) ?_
      refine z_iald C I hw dX6_byDefault_80 (fun v8 hw => ?_)
      exact z_iret C I hr ⟨_, rfl, hw⟩ (Nat.le_of_ble_eq_true rfl) (Nat.le_of_ble_eq_true rfl) dX6_byDefault_81
    · have hw := hw.2 c
      refine lv_iconst (v := 0) hx hb dX6_byDefault_59 (by decide) ?_
      exact z_iret C I hr ⟨_, rfl, hw⟩ (Nat.le_of_ble_eq_true rfl) (Nat.le_of_ble_eq_true rfl) dX6_byDefault_60
  have hb_35 : ∀ (x2 : Int32) (y0 : Nat) (M : zM) (H : Heap) (locs : List Loc) (ls : Array Slot), zWk X s M H locs → lv_has ls 3 [(0, .ref o), (1, .int p0), (2, .int x2)] → w_X6_byDefault_35 o p0 P x2 y0 M → W p l e (zRm 2 45 0 0) s m args below meth c H locs 0 0 (vx_MQ below (zQc X (zPi P)) (zXc X PX) args s 0 0 (zBase X)) (F0 m 35 ls [.ref y0]) := by
    intro x2 y0 M H locs ls I hl hw
    unfold w_X6_byDefault_35 at hw
    refine lv_iconst (v := 1) hx hb dX6_byDefault_35 (by decide) ?_
    refine lv_goto (tgt := 53) hx hb dX6_byDefault_36 (by decide) ?_
    refine W.widen (k := 0) (n := 0) (Nat.le_of_ble_eq_true rfl) (Nat.le_of_ble_eq_true rfl) ?_
    exact hb_53 x2 (1 : Int32) y0 _ _ _ ls I (lv_sub hl [0, 1, 2] rfl) hw
  refine lv_sipush (v := 180) hx hb dX6_byDefault_0 (by decide) ?_
  refine lv_aload_n hx hb dX6_byDefault_3 rfl (lv_at hl 0 rfl) ?_
  refine z_getr C I fl_X6_29 hw dX6_byDefault_4 (fun v9 hw => ?_)
  refine lv_bipush (v := 36) hx hb dX6_byDefault_7 (by decide) ?_
  refine z_iald C I hw dX6_byDefault_9 (fun v10 hw => ?_)
  refine lv_iadd hx hb dX6_byDefault_10 ?_
  refine lv_iconst (v := 1) hx hb dX6_byDefault_11 (by decide) ?_
  refine lv_isub hx hb dX6_byDefault_12 ?_
  refine lv_istore_n (lv' := [(2, .int (((180 : Int32) + v10) - (1 : Int32))), (0, .ref o), (1, .int p0)]) hx hb dX6_byDefault_13 rfl hl (by decide) rfl (fun ls hl => ?_)
  refine lv_aload_n hx hb dX6_byDefault_14 rfl (lv_at hl 1 rfl) ?_
  refine lv_aload_n hx hb dX6_byDefault_15 rfl (lv_at hl 1 rfl) ?_
  refine z_getr C I fl_X6_29 hw dX6_byDefault_16 (fun v11 hw => ?_)
  refine lv_bipush (v := 36) hx hb dX6_byDefault_19 (by decide) ?_
  refine z_iald C I hw dX6_byDefault_21 (fun v12 hw => ?_)
  refine lv_if_eq (tgt := 35) hx hb dX6_byDefault_22 (by decide) (fun c => ?_) (fun c => ?_)
  · have hw := hw.1 c
    refine W.widen (k := 0) (n := 0) (Nat.le_of_ble_eq_true rfl) (Nat.le_of_ble_eq_true rfl) ?_
    exact hb_35 (((180 : Int32) + v10) - (1 : Int32)) o _ _ _ ls I (lv_sub hl [1, 2, 0] rfl) hw
  · have hw := hw.2 c
    refine lv_aload_n hx hb dX6_byDefault_25 rfl (lv_at hl 1 rfl) ?_
    refine z_getr C I fl_X6_13 hw dX6_byDefault_26 (fun v13 hw => ?_)
    refine lv_iload_n hx hb dX6_byDefault_29 rfl (lv_at hl 0 rfl) ?_
    refine z_iald C I hw dX6_byDefault_30 (fun v14 hw => ?_)
    refine lv_iconst (v := 4) hx hb dX6_byDefault_31 (by decide) ?_
    refine lv_icmp_ne (tgt := 39) hx hb dX6_byDefault_32 (by decide) (fun c => ?_) (fun c => ?_)
    · have hw := hw.1 c
      refine lv_aload_n hx hb dX6_byDefault_39 rfl (lv_at hl 1 rfl) ?_
      refine lv_iload_n hx hb dX6_byDefault_40 rfl (lv_at hl 0 rfl) ?_
      refine lv_iload_n hx hb dX6_byDefault_41 rfl (lv_at hl 2 rfl) ?_
      obtain ⟨hrc, hw⟩ := hw
      refine z_callV C I (as := [.int (((180 : Int32) + v10) - (1 : Int32)), .int p0]) (rest := [.ref o]) (m_X6_isValue E hw) kv_X6_106 vc_7 hrc rfl rfl hl.1 (Nat.le_of_ble_eq_true rfl) ⟨Nat.le_of_ble_eq_true rfl, Nat.le_of_ble_eq_true rfl⟩ ⟨Nat.le_of_ble_eq_true rfl, Nat.le_of_ble_eq_true rfl⟩ dX6_byDefault_42 (z_prop C htab (Nat.le_of_ble_eq_true rfl) (Nat.le_of_ble_eq_true rfl)) (fun v M15 _ _ I hv => ?_)
      obtain ⟨v16, rfl, hv16, hw⟩ := hv
      refine W.eq (g2 := F0 m 45 ls [.int v16, .ref o]) rfl ?_
      refine lv_if_eq (tgt := 52) hx hb dX6_byDefault_45 (by decide) (fun c => ?_) (fun c => ?_)
      · have hw := hw.1 c
        refine lv_iconst (v := 2) hx hb dX6_byDefault_52 (by decide) ?_
        refine W.widen (k := 0) (n := 0) (Nat.le_of_ble_eq_true rfl) (Nat.le_of_ble_eq_true rfl) ?_
        exact hb_53 (((180 : Int32) + v10) - (1 : Int32)) (2 : Int32) o _ _ _ ls I (lv_sub hl [1, 2, 0] rfl) hw
      · have hw := hw.2 c
        refine lv_iconst (v := 0) hx hb dX6_byDefault_48 (by decide) ?_
        refine lv_goto (tgt := 53) hx hb dX6_byDefault_49 (by decide) ?_
        refine W.widen (k := 0) (n := 0) (Nat.le_of_ble_eq_true rfl) (Nat.le_of_ble_eq_true rfl) ?_
        exact hb_53 (((180 : Int32) + v10) - (1 : Int32)) (0 : Int32) o _ _ _ ls I (lv_sub hl [1, 2, 0] rfl) hw
    · have hw := hw.2 c
      refine W.widen (k := 0) (n := 0) (Nat.le_of_ble_eq_true rfl) (Nat.le_of_ble_eq_true rfl) ?_
      exact hb_35 (((180 : Int32) + v10) - (1 : Int32)) o _ _ _ ls I (lv_sub hl [1, 2, 0] rfl) hw
set_option maxHeartbeats 4000000 in
set_option maxRecDepth 100000 in
theorem m_X6_empties {X : zX} {l : Launch} (E : zEnv X l) {M : zM} {o : Nat} {P : zM → Prop} {PX : Nat → zM → Prop} (hw : w_X6_empties o M P) : zCT X l yX6_empties cX6_empties 1 none 0 0 0 0 M [.ref o] (zPv P) PX := by
  refine z_entry E (by decide) ?_
  intro p e s m args below meth c C hr htab I
  have hx := C.1.1
  have hb := C.1.2.1
  obtain ⟨ls, he, hl⟩ := z_enter (m := m) (n := 1) (vs := [.ref o]) (l := [(0, .ref o)]) (Nat.le_of_ble_eq_true rfl) rfl
  rw [he]
  clear he
  unfold w_X6_empties at hw
  refine lv_aload_n hx hb dX6_empties_0 rfl (lv_at hl 0 rfl) ?_
  refine z_getr C I fl_X6_29 hw dX6_empties_1 (fun v1 hw => ?_)
  refine lv_bipush (v := 36) hx hb dX6_empties_4 (by decide) ?_
  refine lv_iconst (v := 0) hx hb dX6_empties_6 (by decide) ?_
  refine z_iast C I hw dX6_empties_7 (fun M2 _ _ I hw => ?_)
  refine lv_aload_n hx hb dX6_empties_8 rfl (lv_at hl 0 rfl) ?_
  refine z_getr C I fl_X6_32 hw dX6_empties_9 (fun v3 hw => ?_)
  refine lv_bipush (v := 36) hx hb dX6_empties_12 (by decide) ?_
  refine lv_iconst (v := 0) hx hb dX6_empties_14 (by decide) ?_
  refine z_iast C I hw dX6_empties_15 (fun M4 _ _ I hw => ?_)
  exact z_vret C I hr ⟨rfl, hw⟩ (Nat.le_of_ble_eq_true rfl) (Nat.le_of_ble_eq_true rfl) dX6_empties_16
end
