theorem dX0_init_0 : decode cX0_init 0 = .ok (.aload_n 0, 1) := by decide +kernel
theorem dX0_init_1 : decode cX0_init 1 = .ok (.invokespecial 3, 3) := by decide +kernel
theorem dX0_init_4 : decode cX0_init 4 = .ok (.aload_n 0, 1) := by decide +kernel
theorem dX0_init_5 : decode cX0_init 5 = .ok (.iload_n 1, 1) := by decide +kernel
theorem dX0_init_6 : decode cX0_init 6 = .ok (.putfield 9, 3) := by decide +kernel
theorem dX0_init_9 : decode cX0_init 9 = .ok (.aload_n 0, 1) := by decide +kernel
theorem dX0_init_10 : decode cX0_init 10 = .ok (.iload_n 2, 1) := by decide +kernel
theorem dX0_init_11 : decode cX0_init 11 = .ok (.putfield 15, 3) := by decide +kernel
theorem dX0_init_14 : decode cX0_init 14 = .ok (.aload_n 0, 1) := by decide +kernel
theorem dX0_init_15 : decode cX0_init 15 = .ok (.iload_n 3, 1) := by decide +kernel
theorem dX0_init_16 : decode cX0_init 16 = .ok (.putfield 18, 3) := by decide +kernel
theorem dX0_init_19 : decode cX0_init 19 = .ok (.aload_n 0, 1) := by decide +kernel
theorem dX0_init_20 : decode cX0_init 20 = .ok (.iload 4, 2) := by decide +kernel
theorem dX0_init_22 : decode cX0_init 22 = .ok (.putfield 21, 3) := by decide +kernel
theorem dX0_init_25 : decode cX0_init 25 = .ok (.aload_n 0, 1) := by decide +kernel
theorem dX0_init_26 : decode cX0_init 26 = .ok (.iload 5, 2) := by decide +kernel
theorem dX0_init_28 : decode cX0_init 28 = .ok (.putfield 24, 3) := by decide +kernel
theorem dX0_init_31 : decode cX0_init 31 = .ok (.aload_n 0, 1) := by decide +kernel
theorem dX0_init_32 : decode cX0_init 32 = .ok (.aload 6, 2) := by decide +kernel
theorem dX0_init_34 : decode cX0_init 34 = .ok (.putfield 27, 3) := by decide +kernel
theorem dX0_init_37 : decode cX0_init 37 = .ok (.return_, 1) := by decide +kernel
theorem dX0_isReadFromType_0 : decode cX0_isReadFromType 0 = .ok (.aload_n 0, 1) := by decide +kernel
theorem dX0_isReadFromType_1 : decode cX0_isReadFromType 1 = .ok (.getfield 15, 3) := by decide +kernel
theorem dX0_isReadFromType_4 : decode cX0_isReadFromType 4 = .ok (.iload_n 1, 1) := by decide +kernel
theorem dX0_isReadFromType_5 : decode cX0_isReadFromType 5 = .ok (.if_icmp .eq 15, 3) := by decide +kernel
theorem dX0_isReadFromType_8 : decode cX0_isReadFromType 8 = .ok (.aload_n 0, 1) := by decide +kernel
theorem dX0_isReadFromType_9 : decode cX0_isReadFromType 9 = .ok (.getfield 15, 3) := by decide +kernel
theorem dX0_isReadFromType_12 : decode cX0_isReadFromType 12 = .ok (.iconst 1, 1) := by decide +kernel
theorem dX0_isReadFromType_13 : decode cX0_isReadFromType 13 = .ok (.if_icmp .ne 11, 3) := by decide +kernel
theorem dX0_isReadFromType_16 : decode cX0_isReadFromType 16 = .ok (.iload_n 1, 1) := by decide +kernel
theorem dX0_isReadFromType_17 : decode cX0_isReadFromType 17 = .ok (.ifCond .ne 7, 3) := by decide +kernel
theorem dX0_isReadFromType_20 : decode cX0_isReadFromType 20 = .ok (.iconst 1, 1) := by decide +kernel
theorem dX0_isReadFromType_21 : decode cX0_isReadFromType 21 = .ok (.goto 4, 3) := by decide +kernel
theorem dX0_isReadFromType_24 : decode cX0_isReadFromType 24 = .ok (.iconst 0, 1) := by decide +kernel
theorem dX0_isReadFromType_25 : decode cX0_isReadFromType 25 = .ok (.ireturn, 1) := by decide +kernel
theorem dX0_isLike_0 : decode cX0_isLike 0 = .ok (.aload_n 0, 1) := by decide +kernel
theorem dX0_isLike_1 : decode cX0_isLike 1 = .ok (.getfield 9, 3) := by decide +kernel
theorem dX0_isLike_4 : decode cX0_isLike 4 = .ok (.aload_n 1, 1) := by decide +kernel
theorem dX0_isLike_5 : decode cX0_isLike 5 = .ok (.getfield 9, 3) := by decide +kernel
theorem dX0_isLike_8 : decode cX0_isLike 8 = .ok (.if_icmp .ne 73, 3) := by decide +kernel
theorem dX0_isLike_11 : decode cX0_isLike 11 = .ok (.aload_n 0, 1) := by decide +kernel
theorem dX0_isLike_12 : decode cX0_isLike 12 = .ok (.getfield 15, 3) := by decide +kernel
theorem dX0_isLike_15 : decode cX0_isLike 15 = .ok (.aload_n 1, 1) := by decide +kernel
theorem dX0_isLike_16 : decode cX0_isLike 16 = .ok (.getfield 15, 3) := by decide +kernel
theorem dX0_isLike_19 : decode cX0_isLike 19 = .ok (.if_icmp .ne 62, 3) := by decide +kernel
theorem dX0_isLike_22 : decode cX0_isLike 22 = .ok (.aload_n 0, 1) := by decide +kernel
theorem dX0_isLike_23 : decode cX0_isLike 23 = .ok (.getfield 18, 3) := by decide +kernel
theorem dX0_isLike_26 : decode cX0_isLike 26 = .ok (.aload_n 1, 1) := by decide +kernel
theorem dX0_isLike_27 : decode cX0_isLike 27 = .ok (.getfield 18, 3) := by decide +kernel
theorem dX0_isLike_30 : decode cX0_isLike 30 = .ok (.if_icmp .ne 51, 3) := by decide +kernel
theorem dX0_isLike_33 : decode cX0_isLike 33 = .ok (.aload_n 0, 1) := by decide +kernel
theorem dX0_isLike_34 : decode cX0_isLike 34 = .ok (.getfield 21, 3) := by decide +kernel
theorem dX0_isLike_37 : decode cX0_isLike 37 = .ok (.aload_n 1, 1) := by decide +kernel
theorem dX0_isLike_38 : decode cX0_isLike 38 = .ok (.getfield 21, 3) := by decide +kernel
theorem dX0_isLike_41 : decode cX0_isLike 41 = .ok (.if_icmp .ne 40, 3) := by decide +kernel
theorem dX0_isLike_44 : decode cX0_isLike 44 = .ok (.aload_n 0, 1) := by decide +kernel
theorem dX0_isLike_45 : decode cX0_isLike 45 = .ok (.getfield 24, 3) := by decide +kernel
theorem dX0_isLike_48 : decode cX0_isLike 48 = .ok (.aload_n 1, 1) := by decide +kernel
theorem dX0_isLike_49 : decode cX0_isLike 49 = .ok (.getfield 24, 3) := by decide +kernel
theorem dX0_isLike_52 : decode cX0_isLike 52 = .ok (.if_icmp .ne 29, 3) := by decide +kernel
theorem dX0_isLike_55 : decode cX0_isLike 55 = .ok (.aload_n 0, 1) := by decide +kernel
theorem dX0_isLike_56 : decode cX0_isLike 56 = .ok (.getfield 31, 3) := by decide +kernel
theorem dX0_isLike_59 : decode cX0_isLike 59 = .ok (.aload_n 1, 1) := by decide +kernel
theorem dX0_isLike_60 : decode cX0_isLike 60 = .ok (.getfield 31, 3) := by decide +kernel
theorem dX0_isLike_63 : decode cX0_isLike 63 = .ok (.if_icmp .ne 18, 3) := by decide +kernel
theorem dX0_isLike_66 : decode cX0_isLike 66 = .ok (.aload_n 0, 1) := by decide +kernel
theorem dX0_isLike_67 : decode cX0_isLike 67 = .ok (.getfield 35, 3) := by decide +kernel
theorem dX0_isLike_70 : decode cX0_isLike 70 = .ok (.aload_n 1, 1) := by decide +kernel
theorem dX0_isLike_71 : decode cX0_isLike 71 = .ok (.getfield 35, 3) := by decide +kernel
theorem dX0_isLike_74 : decode cX0_isLike 74 = .ok (.if_icmp .ne 7, 3) := by decide +kernel
theorem dX0_isLike_77 : decode cX0_isLike 77 = .ok (.iconst 1, 1) := by decide +kernel
theorem dX0_isLike_78 : decode cX0_isLike 78 = .ok (.goto 4, 3) := by decide +kernel
theorem dX0_isLike_81 : decode cX0_isLike 81 = .ok (.iconst 0, 1) := by decide +kernel
theorem dX0_isLike_82 : decode cX0_isLike 82 = .ok (.ireturn, 1) := by decide +kernel
theorem dX1_init_0 : decode cX1_init 0 = .ok (.aload_n 0, 1) := by decide +kernel
theorem dX1_init_1 : decode cX1_init 1 = .ok (.invokespecial 3, 3) := by decide +kernel
theorem dX1_init_4 : decode cX1_init 4 = .ok (.aload_n 0, 1) := by decide +kernel
theorem dX1_init_5 : decode cX1_init 5 = .ok (.bipush 20, 2) := by decide +kernel
theorem dX1_init_7 : decode cX1_init 7 = .ok (.newarray .int, 2) := by decide +kernel
theorem dX1_init_9 : decode cX1_init 9 = .ok (.putfield 9, 3) := by decide +kernel
theorem dX1_init_12 : decode cX1_init 12 = .ok (.return_, 1) := by decide +kernel
theorem dX1_count_0 : decode cX1_count 0 = .ok (.aload_n 0, 1) := by decide +kernel
theorem dX1_count_1 : decode cX1_count 1 = .ok (.getfield 15, 3) := by decide +kernel
theorem dX1_count_4 : decode cX1_count 4 = .ok (.ireturn, 1) := by decide +kernel
theorem dX1_at_0 : decode cX1_at 0 = .ok (.iload_n 1, 1) := by decide +kernel
theorem dX1_at_1 : decode cX1_at 1 = .ok (.ifCond .lt 20, 3) := by decide +kernel
theorem dX1_at_4 : decode cX1_at 4 = .ok (.iload_n 1, 1) := by decide +kernel
theorem dX1_at_5 : decode cX1_at 5 = .ok (.aload_n 0, 1) := by decide +kernel
theorem dX1_at_6 : decode cX1_at 6 = .ok (.getfield 15, 3) := by decide +kernel
theorem dX1_at_9 : decode cX1_at 9 = .ok (.if_icmp .ge 12, 3) := by decide +kernel
theorem dX1_at_12 : decode cX1_at 12 = .ok (.iload_n 1, 1) := by decide +kernel
theorem dX1_at_13 : decode cX1_at 13 = .ok (.aload_n 0, 1) := by decide +kernel
theorem dX1_at_14 : decode cX1_at 14 = .ok (.getfield 9, 3) := by decide +kernel
theorem dX1_at_17 : decode cX1_at 17 = .ok (.arraylength, 1) := by decide +kernel
theorem dX1_at_18 : decode cX1_at 18 = .ok (.if_icmp .lt 7, 3) := by decide +kernel
theorem dX1_at_21 : decode cX1_at 21 = .ok (.iconst 0, 1) := by decide +kernel
theorem dX1_at_22 : decode cX1_at 22 = .ok (.goto 9, 3) := by decide +kernel
theorem dX1_at_25 : decode cX1_at 25 = .ok (.aload_n 0, 1) := by decide +kernel
theorem dX1_at_26 : decode cX1_at 26 = .ok (.getfield 9, 3) := by decide +kernel
theorem dX1_at_29 : decode cX1_at 29 = .ok (.iload_n 1, 1) := by decide +kernel
theorem dX1_at_30 : decode cX1_at 30 = .ok (.iaload, 1) := by decide +kernel
theorem dX1_at_31 : decode cX1_at 31 = .ok (.ireturn, 1) := by decide +kernel
theorem dX1_add_0 : decode cX1_add 0 = .ok (.aload_n 0, 1) := by decide +kernel
theorem dX1_add_1 : decode cX1_add 1 = .ok (.getfield 15, 3) := by decide +kernel
theorem dX1_add_4 : decode cX1_add 4 = .ok (.ifCond .lt 35, 3) := by decide +kernel
theorem dX1_add_7 : decode cX1_add 7 = .ok (.aload_n 0, 1) := by decide +kernel
theorem dX1_add_8 : decode cX1_add 8 = .ok (.getfield 15, 3) := by decide +kernel
theorem dX1_add_11 : decode cX1_add 11 = .ok (.aload_n 0, 1) := by decide +kernel
theorem dX1_add_12 : decode cX1_add 12 = .ok (.getfield 9, 3) := by decide +kernel
theorem dX1_add_15 : decode cX1_add 15 = .ok (.arraylength, 1) := by decide +kernel
theorem dX1_add_16 : decode cX1_add 16 = .ok (.if_icmp .ge 23, 3) := by decide +kernel
theorem dX1_add_19 : decode cX1_add 19 = .ok (.aload_n 0, 1) := by decide +kernel
theorem dX1_add_20 : decode cX1_add 20 = .ok (.getfield 9, 3) := by decide +kernel
theorem dX1_add_23 : decode cX1_add 23 = .ok (.aload_n 0, 1) := by decide +kernel
theorem dX1_add_24 : decode cX1_add 24 = .ok (.getfield 15, 3) := by decide +kernel
theorem dX1_add_27 : decode cX1_add 27 = .ok (.iload_n 1, 1) := by decide +kernel
theorem dX1_add_28 : decode cX1_add 28 = .ok (.iastore, 1) := by decide +kernel
theorem dX1_add_29 : decode cX1_add 29 = .ok (.aload_n 0, 1) := by decide +kernel
theorem dX1_add_30 : decode cX1_add 30 = .ok (.dup, 1) := by decide +kernel
theorem dX1_add_31 : decode cX1_add 31 = .ok (.getfield 15, 3) := by decide +kernel
theorem dX1_add_34 : decode cX1_add 34 = .ok (.iconst 1, 1) := by decide +kernel
theorem dX1_add_35 : decode cX1_add 35 = .ok (.iadd, 1) := by decide +kernel
theorem dX1_add_36 : decode cX1_add 36 = .ok (.putfield 15, 3) := by decide +kernel
theorem dX1_add_39 : decode cX1_add 39 = .ok (.return_, 1) := by decide +kernel
theorem dX1_addAll_0 : decode cX1_addAll 0 = .ok (.iconst 0, 1) := by decide +kernel
theorem dX1_addAll_1 : decode cX1_addAll 1 = .ok (.istore_n 2, 1) := by decide +kernel
theorem dX1_addAll_2 : decode cX1_addAll 2 = .ok (.iload_n 2, 1) := by decide +kernel
theorem dX1_addAll_3 : decode cX1_addAll 3 = .ok (.aload_n 1, 1) := by decide +kernel
theorem dX1_addAll_4 : decode cX1_addAll 4 = .ok (.invokevirtual 19, 3) := by decide +kernel
theorem dX1_addAll_7 : decode cX1_addAll 7 = .ok (.if_icmp .ge 18, 3) := by decide +kernel
theorem dX1_addAll_10 : decode cX1_addAll 10 = .ok (.aload_n 0, 1) := by decide +kernel
theorem dX1_addAll_11 : decode cX1_addAll 11 = .ok (.aload_n 1, 1) := by decide +kernel
theorem dX1_addAll_12 : decode cX1_addAll 12 = .ok (.iload_n 2, 1) := by decide +kernel
theorem dX1_addAll_13 : decode cX1_addAll 13 = .ok (.invokevirtual 23, 3) := by decide +kernel
theorem dX1_addAll_16 : decode cX1_addAll 16 = .ok (.invokevirtual 27, 3) := by decide +kernel
theorem dX1_addAll_19 : decode cX1_addAll 19 = .ok (.iinc 2 1, 3) := by decide +kernel
theorem dX1_addAll_22 : decode cX1_addAll 22 = .ok (.goto (-20), 3) := by decide +kernel
theorem dX1_addAll_25 : decode cX1_addAll 25 = .ok (.return_, 1) := by decide +kernel
theorem dX1_empty_0 : decode cX1_empty 0 = .ok (.aload_n 0, 1) := by decide +kernel
theorem dX1_empty_1 : decode cX1_empty 1 = .ok (.iconst 0, 1) := by decide +kernel
theorem dX1_empty_2 : decode cX1_empty 2 = .ok (.putfield 15, 3) := by decide +kernel
theorem dX1_empty_5 : decode cX1_empty 5 = .ok (.return_, 1) := by decide +kernel
theorem dX2_init_0 : decode cX2_init 0 = .ok (.aload_n 0, 1) := by decide +kernel
theorem dX2_init_1 : decode cX2_init 1 = .ok (.invokespecial 3, 3) := by decide +kernel
theorem dX2_init_4 : decode cX2_init 4 = .ok (.aload_n 0, 1) := by decide +kernel
theorem dX2_init_5 : decode cX2_init 5 = .ok (.new 9, 3) := by decide +kernel
theorem dX2_init_8 : decode cX2_init 8 = .ok (.dup, 1) := by decide +kernel
theorem dX2_init_9 : decode cX2_init 9 = .ok (.invokespecial 11, 3) := by decide +kernel
theorem dX2_init_12 : decode cX2_init 12 = .ok (.putfield 12, 3) := by decide +kernel
theorem dX2_init_15 : decode cX2_init 15 = .ok (.aload_n 0, 1) := by decide +kernel
theorem dX2_init_16 : decode cX2_init 16 = .ok (.new 18, 3) := by decide +kernel
theorem dX2_init_19 : decode cX2_init 19 = .ok (.dup, 1) := by decide +kernel
theorem dX2_init_20 : decode cX2_init 20 = .ok (.invokespecial 20, 3) := by decide +kernel
theorem dX2_init_23 : decode cX2_init 23 = .ok (.putfield 21, 3) := by decide +kernel
theorem dX2_init_26 : decode cX2_init 26 = .ok (.aload_n 0, 1) := by decide +kernel
theorem dX2_init_27 : decode cX2_init 27 = .ok (.iconst (-1), 1) := by decide +kernel
theorem dX2_init_28 : decode cX2_init 28 = .ok (.putfield 25, 3) := by decide +kernel
theorem dX2_init_31 : decode cX2_init 31 = .ok (.return_, 1) := by decide +kernel
theorem dX2_append_0 : decode cX2_append 0 = .ok (.aload_n 1, 1) := by decide +kernel
theorem dX2_append_1 : decode cX2_append 1 = .ok (.aload_n 0, 1) := by decide +kernel
theorem dX2_append_2 : decode cX2_append 2 = .ok (.getfield 21, 3) := by decide +kernel
theorem dX2_append_5 : decode cX2_append 5 = .ok (.invokevirtual 29, 3) := by decide +kernel
theorem dX2_append_8 : decode cX2_append 8 = .ok (.putfield 33, 3) := by decide +kernel
theorem dX2_append_11 : decode cX2_append 11 = .ok (.aload_n 0, 1) := by decide +kernel
theorem dX2_append_12 : decode cX2_append 12 = .ok (.getfield 12, 3) := by decide +kernel
theorem dX2_append_15 : decode cX2_append 15 = .ok (.aload_n 1, 1) := by decide +kernel
theorem dX2_append_16 : decode cX2_append 16 = .ok (.invokevirtual 38, 3) := by decide +kernel
theorem dX2_append_19 : decode cX2_append 19 = .ok (.pop, 1) := by decide +kernel
theorem dX2_append_20 : decode cX2_append 20 = .ok (.aload_n 1, 1) := by decide +kernel
theorem dX2_append_21 : decode cX2_append 21 = .ok (.getfield 42, 3) := by decide +kernel
theorem dX2_append_24 : decode cX2_append 24 = .ok (.ifnonnull 17, 3) := by decide +kernel
theorem dX2_append_27 : decode cX2_append 27 = .ok (.aload_n 0, 1) := by decide +kernel
theorem dX2_append_28 : decode cX2_append 28 = .ok (.getfield 21, 3) := by decide +kernel
theorem dX2_append_31 : decode cX2_append 31 = .ok (.aload_n 1, 1) := by decide +kernel
theorem dX2_append_32 : decode cX2_append 32 = .ok (.getfield 46, 3) := by decide +kernel
theorem dX2_append_35 : decode cX2_append 35 = .ok (.invokevirtual 49, 3) := by decide +kernel
theorem dX2_append_38 : decode cX2_append 38 = .ok (.goto 17, 3) := by decide +kernel
theorem dX2_append_41 : decode cX2_append 41 = .ok (.aload_n 0, 1) := by decide +kernel
theorem dX2_append_42 : decode cX2_append 42 = .ok (.getfield 21, 3) := by decide +kernel
theorem dX2_append_45 : decode cX2_append 45 = .ok (.aload_n 1, 1) := by decide +kernel
theorem dX2_append_46 : decode cX2_append 46 = .ok (.getfield 42, 3) := by decide +kernel
theorem dX2_append_49 : decode cX2_append 49 = .ok (.getfield 21, 3) := by decide +kernel
theorem dX2_append_52 : decode cX2_append 52 = .ok (.invokevirtual 52, 3) := by decide +kernel
theorem dX2_append_55 : decode cX2_append 55 = .ok (.return_, 1) := by decide +kernel
theorem dX2_empty_0 : decode cX2_empty 0 = .ok (.aload_n 0, 1) := by decide +kernel
theorem dX2_empty_1 : decode cX2_empty 1 = .ok (.getfield 12, 3) := by decide +kernel
theorem dX2_empty_4 : decode cX2_empty 4 = .ok (.invokevirtual 56, 3) := by decide +kernel
theorem dX2_empty_7 : decode cX2_empty 7 = .ok (.aload_n 0, 1) := by decide +kernel
theorem dX2_empty_8 : decode cX2_empty 8 = .ok (.getfield 21, 3) := by decide +kernel
theorem dX2_empty_11 : decode cX2_empty 11 = .ok (.invokevirtual 59, 3) := by decide +kernel
theorem dX2_empty_14 : decode cX2_empty 14 = .ok (.return_, 1) := by decide +kernel
theorem dX2_last_0 : decode cX2_last 0 = .ok (.aload_n 0, 1) := by decide +kernel
theorem dX2_last_1 : decode cX2_last 1 = .ok (.getfield 12, 3) := by decide +kernel
theorem dX2_last_4 : decode cX2_last 4 = .ok (.invokevirtual 62, 3) := by decide +kernel
theorem dX2_last_7 : decode cX2_last 7 = .ok (.ifCond .eq 7, 3) := by decide +kernel
theorem dX2_last_10 : decode cX2_last 10 = .ok (.aconst_null, 1) := by decide +kernel
theorem dX2_last_11 : decode cX2_last 11 = .ok (.goto 22, 3) := by decide +kernel
theorem dX2_last_14 : decode cX2_last 14 = .ok (.aload_n 0, 1) := by decide +kernel
theorem dX2_last_15 : decode cX2_last 15 = .ok (.getfield 12, 3) := by decide +kernel
theorem dX2_last_18 : decode cX2_last 18 = .ok (.aload_n 0, 1) := by decide +kernel
theorem dX2_last_19 : decode cX2_last 19 = .ok (.getfield 12, 3) := by decide +kernel
theorem dX2_last_22 : decode cX2_last 22 = .ok (.invokevirtual 66, 3) := by decide +kernel
theorem dX2_last_25 : decode cX2_last 25 = .ok (.iconst 1, 1) := by decide +kernel
theorem dX2_last_26 : decode cX2_last 26 = .ok (.isub, 1) := by decide +kernel
theorem dX2_last_27 : decode cX2_last 27 = .ok (.invokevirtual 68, 3) := by decide +kernel
theorem dX2_last_30 : decode cX2_last 30 = .ok (.checkcast 34, 3) := by decide +kernel
theorem dX2_last_33 : decode cX2_last 33 = .ok (.areturn, 1) := by decide +kernel
theorem dX2_named_0 : decode cX2_named 0 = .ok (.iconst 0, 1) := by decide +kernel
theorem dX2_named_1 : decode cX2_named 1 = .ok (.istore_n 2, 1) := by decide +kernel
theorem dX2_named_2 : decode cX2_named 2 = .ok (.iload_n 2, 1) := by decide +kernel
theorem dX2_named_3 : decode cX2_named 3 = .ok (.aload_n 0, 1) := by decide +kernel
theorem dX2_named_4 : decode cX2_named 4 = .ok (.getfield 12, 3) := by decide +kernel
theorem dX2_named_7 : decode cX2_named 7 = .ok (.invokevirtual 66, 3) := by decide +kernel
theorem dX2_named_10 : decode cX2_named 10 = .ok (.if_icmp .ge 39, 3) := by decide +kernel
theorem dX2_named_13 : decode cX2_named 13 = .ok (.aload_n 0, 1) := by decide +kernel
theorem dX2_named_14 : decode cX2_named 14 = .ok (.getfield 12, 3) := by decide +kernel
theorem dX2_named_17 : decode cX2_named 17 = .ok (.iload_n 2, 1) := by decide +kernel
theorem dX2_named_18 : decode cX2_named 18 = .ok (.invokevirtual 68, 3) := by decide +kernel
theorem dX2_named_21 : decode cX2_named 21 = .ok (.checkcast 34, 3) := by decide +kernel
theorem dX2_named_24 : decode cX2_named 24 = .ok (.getfield 72, 3) := by decide +kernel
theorem dX2_named_27 : decode cX2_named 27 = .ok (.iload_n 1, 1) := by decide +kernel
theorem dX2_named_28 : decode cX2_named 28 = .ok (.if_icmp .ne 15, 3) := by decide +kernel
theorem dX2_named_31 : decode cX2_named 31 = .ok (.aload_n 0, 1) := by decide +kernel
theorem dX2_named_32 : decode cX2_named 32 = .ok (.getfield 12, 3) := by decide +kernel
theorem dX2_named_35 : decode cX2_named 35 = .ok (.iload_n 2, 1) := by decide +kernel
theorem dX2_named_36 : decode cX2_named 36 = .ok (.invokevirtual 68, 3) := by decide +kernel
theorem dX2_named_39 : decode cX2_named 39 = .ok (.checkcast 34, 3) := by decide +kernel
theorem dX2_named_42 : decode cX2_named 42 = .ok (.areturn, 1) := by decide +kernel
theorem dX2_named_43 : decode cX2_named 43 = .ok (.iinc 2 1, 3) := by decide +kernel
theorem dX2_named_46 : decode cX2_named 46 = .ok (.goto (-44), 3) := by decide +kernel
theorem dX2_named_49 : decode cX2_named 49 = .ok (.aconst_null, 1) := by decide +kernel
theorem dX2_named_50 : decode cX2_named 50 = .ok (.areturn, 1) := by decide +kernel
theorem dX2_sourceOf_0 : decode cX2_sourceOf 0 = .ok (.aload_n 0, 1) := by decide +kernel
theorem dX2_sourceOf_1 : decode cX2_sourceOf 1 = .ok (.aload_n 1, 1) := by decide +kernel
theorem dX2_sourceOf_2 : decode cX2_sourceOf 2 = .ok (.getfield 72, 3) := by decide +kernel
theorem dX2_sourceOf_5 : decode cX2_sourceOf 5 = .ok (.invokevirtual 75, 3) := by decide +kernel
theorem dX2_sourceOf_8 : decode cX2_sourceOf 8 = .ok (.astore_n 2, 1) := by decide +kernel
theorem dX2_sourceOf_9 : decode cX2_sourceOf 9 = .ok (.aload_n 2, 1) := by decide +kernel
theorem dX2_sourceOf_10 : decode cX2_sourceOf 10 = .ok (.ifnull 7, 3) := by decide +kernel
theorem dX2_sourceOf_13 : decode cX2_sourceOf 13 = .ok (.aload_n 2, 1) := by decide +kernel
theorem dX2_sourceOf_14 : decode cX2_sourceOf 14 = .ok (.goto 11, 3) := by decide +kernel
theorem dX2_sourceOf_17 : decode cX2_sourceOf 17 = .ok (.aload_n 0, 1) := by decide +kernel
theorem dX2_sourceOf_18 : decode cX2_sourceOf 18 = .ok (.aload_n 1, 1) := by decide +kernel
theorem dX2_sourceOf_19 : decode cX2_sourceOf 19 = .ok (.getfield 79, 3) := by decide +kernel
theorem dX2_sourceOf_22 : decode cX2_sourceOf 22 = .ok (.invokevirtual 75, 3) := by decide +kernel
theorem dX2_sourceOf_25 : decode cX2_sourceOf 25 = .ok (.areturn, 1) := by decide +kernel
theorem dX2_refersTo_0 : decode cX2_refersTo 0 = .ok (.iconst 0, 1) := by decide +kernel
theorem dX2_refersTo_1 : decode cX2_refersTo 1 = .ok (.istore_n 2, 1) := by decide +kernel
theorem dX2_refersTo_2 : decode cX2_refersTo 2 = .ok (.iload_n 2, 1) := by decide +kernel
theorem dX2_refersTo_3 : decode cX2_refersTo 3 = .ok (.aload_n 0, 1) := by decide +kernel
theorem dX2_refersTo_4 : decode cX2_refersTo 4 = .ok (.getfield 12, 3) := by decide +kernel
theorem dX2_refersTo_7 : decode cX2_refersTo 7 = .ok (.invokevirtual 66, 3) := by decide +kernel
theorem dX2_refersTo_10 : decode cX2_refersTo 10 = .ok (.if_icmp .ge 29, 3) := by decide +kernel
theorem dX2_refersTo_13 : decode cX2_refersTo 13 = .ok (.aload_n 0, 1) := by decide +kernel
theorem dX2_refersTo_14 : decode cX2_refersTo 14 = .ok (.getfield 12, 3) := by decide +kernel
theorem dX2_refersTo_17 : decode cX2_refersTo 17 = .ok (.iload_n 2, 1) := by decide +kernel
theorem dX2_refersTo_18 : decode cX2_refersTo 18 = .ok (.invokevirtual 68, 3) := by decide +kernel
theorem dX2_refersTo_21 : decode cX2_refersTo 21 = .ok (.checkcast 34, 3) := by decide +kernel
theorem dX2_refersTo_24 : decode cX2_refersTo 24 = .ok (.getfield 82, 3) := by decide +kernel
theorem dX2_refersTo_27 : decode cX2_refersTo 27 = .ok (.iload_n 1, 1) := by decide +kernel
theorem dX2_refersTo_28 : decode cX2_refersTo 28 = .ok (.if_icmp .ne 5, 3) := by decide +kernel
theorem dX2_refersTo_31 : decode cX2_refersTo 31 = .ok (.iconst 1, 1) := by decide +kernel
theorem dX2_refersTo_32 : decode cX2_refersTo 32 = .ok (.ireturn, 1) := by decide +kernel
theorem dX2_refersTo_33 : decode cX2_refersTo 33 = .ok (.iinc 2 1, 3) := by decide +kernel
theorem dX2_refersTo_36 : decode cX2_refersTo 36 = .ok (.goto (-34), 3) := by decide +kernel
theorem dX2_refersTo_39 : decode cX2_refersTo 39 = .ok (.iconst 0, 1) := by decide +kernel
theorem dX2_refersTo_40 : decode cX2_refersTo 40 = .ok (.ireturn, 1) := by decide +kernel
theorem dX2_isLike_0 : decode cX2_isLike 0 = .ok (.aload_n 0, 1) := by decide +kernel
theorem dX2_isLike_1 : decode cX2_isLike 1 = .ok (.getfield 12, 3) := by decide +kernel
theorem dX2_isLike_4 : decode cX2_isLike 4 = .ok (.invokevirtual 66, 3) := by decide +kernel
theorem dX2_isLike_7 : decode cX2_isLike 7 = .ok (.aload_n 1, 1) := by decide +kernel
theorem dX2_isLike_8 : decode cX2_isLike 8 = .ok (.getfield 12, 3) := by decide +kernel
theorem dX2_isLike_11 : decode cX2_isLike 11 = .ok (.invokevirtual 66, 3) := by decide +kernel
theorem dX2_isLike_14 : decode cX2_isLike 14 = .ok (.if_icmp .eq 5, 3) := by decide +kernel
theorem dX2_isLike_17 : decode cX2_isLike 17 = .ok (.iconst 0, 1) := by decide +kernel
theorem dX2_isLike_18 : decode cX2_isLike 18 = .ok (.ireturn, 1) := by decide +kernel
theorem dX2_isLike_19 : decode cX2_isLike 19 = .ok (.iconst 0, 1) := by decide +kernel
theorem dX2_isLike_20 : decode cX2_isLike 20 = .ok (.istore_n 2, 1) := by decide +kernel
theorem dX2_isLike_21 : decode cX2_isLike 21 = .ok (.iload_n 2, 1) := by decide +kernel
theorem dX2_isLike_22 : decode cX2_isLike 22 = .ok (.aload_n 0, 1) := by decide +kernel
theorem dX2_isLike_23 : decode cX2_isLike 23 = .ok (.getfield 12, 3) := by decide +kernel
theorem dX2_isLike_26 : decode cX2_isLike 26 = .ok (.invokevirtual 66, 3) := by decide +kernel
theorem dX2_isLike_29 : decode cX2_isLike 29 = .ok (.if_icmp .ge 50, 3) := by decide +kernel
theorem dX2_isLike_32 : decode cX2_isLike 32 = .ok (.iload_n 2, 1) := by decide +kernel
theorem dX2_isLike_33 : decode cX2_isLike 33 = .ok (.aload_n 1, 1) := by decide +kernel
theorem dX2_isLike_34 : decode cX2_isLike 34 = .ok (.getfield 12, 3) := by decide +kernel
theorem dX2_isLike_37 : decode cX2_isLike 37 = .ok (.invokevirtual 66, 3) := by decide +kernel
theorem dX2_isLike_40 : decode cX2_isLike 40 = .ok (.if_icmp .ge 39, 3) := by decide +kernel
theorem dX2_isLike_43 : decode cX2_isLike 43 = .ok (.aload_n 0, 1) := by decide +kernel
theorem dX2_isLike_44 : decode cX2_isLike 44 = .ok (.getfield 12, 3) := by decide +kernel
theorem dX2_isLike_47 : decode cX2_isLike 47 = .ok (.iload_n 2, 1) := by decide +kernel
theorem dX2_isLike_48 : decode cX2_isLike 48 = .ok (.invokevirtual 68, 3) := by decide +kernel
theorem dX2_isLike_51 : decode cX2_isLike 51 = .ok (.checkcast 34, 3) := by decide +kernel
theorem dX2_isLike_54 : decode cX2_isLike 54 = .ok (.aload_n 1, 1) := by decide +kernel
theorem dX2_isLike_55 : decode cX2_isLike 55 = .ok (.getfield 12, 3) := by decide +kernel
theorem dX2_isLike_58 : decode cX2_isLike 58 = .ok (.iload_n 2, 1) := by decide +kernel
theorem dX2_isLike_59 : decode cX2_isLike 59 = .ok (.invokevirtual 68, 3) := by decide +kernel
theorem dX2_isLike_62 : decode cX2_isLike 62 = .ok (.checkcast 34, 3) := by decide +kernel
theorem dX2_isLike_65 : decode cX2_isLike 65 = .ok (.invokevirtual 85, 3) := by decide +kernel
theorem dX2_isLike_68 : decode cX2_isLike 68 = .ok (.ifCond .ne 5, 3) := by decide +kernel
theorem dX2_isLike_71 : decode cX2_isLike 71 = .ok (.iconst 0, 1) := by decide +kernel
theorem dX2_isLike_72 : decode cX2_isLike 72 = .ok (.ireturn, 1) := by decide +kernel
theorem dX2_isLike_73 : decode cX2_isLike 73 = .ok (.iinc 2 1, 3) := by decide +kernel
theorem dX2_isLike_76 : decode cX2_isLike 76 = .ok (.goto (-55), 3) := by decide +kernel
theorem dX2_isLike_79 : decode cX2_isLike 79 = .ok (.iconst 1, 1) := by decide +kernel
theorem dX2_isLike_80 : decode cX2_isLike 80 = .ok (.ireturn, 1) := by decide +kernel
theorem dX3_init_0 : decode cX3_init 0 = .ok (.aload_n 0, 1) := by decide +kernel
theorem dX3_init_1 : decode cX3_init 1 = .ok (.invokespecial 3, 3) := by decide +kernel
theorem dX3_init_4 : decode cX3_init 4 = .ok (.aload_n 0, 1) := by decide +kernel
theorem dX3_init_5 : decode cX3_init 5 = .ok (.new 9, 3) := by decide +kernel
theorem dX3_init_8 : decode cX3_init 8 = .ok (.dup, 1) := by decide +kernel
theorem dX3_init_9 : decode cX3_init 9 = .ok (.invokespecial 11, 3) := by decide +kernel
theorem dX3_init_12 : decode cX3_init 12 = .ok (.putfield 12, 3) := by decide +kernel
theorem dX3_init_15 : decode cX3_init 15 = .ok (.return_, 1) := by decide +kernel
theorem dX3_keptVersion_0 : decode cX3_keptVersion 0 = .ok (.iload_n 1, 1) := by decide +kernel
theorem dX3_keptVersion_1 : decode cX3_keptVersion 1 = .ok (.ifCond .lt 14, 3) := by decide +kernel
theorem dX3_keptVersion_4 : decode cX3_keptVersion 4 = .ok (.iload_n 1, 1) := by decide +kernel
theorem dX3_keptVersion_5 : decode cX3_keptVersion 5 = .ok (.aload_n 0, 1) := by decide +kernel
theorem dX3_keptVersion_6 : decode cX3_keptVersion 6 = .ok (.getfield 12, 3) := by decide +kernel
theorem dX3_keptVersion_9 : decode cX3_keptVersion 9 = .ok (.invokevirtual 18, 3) := by decide +kernel
theorem dX3_keptVersion_12 : decode cX3_keptVersion 12 = .ok (.if_icmp .lt 5, 3) := by decide +kernel
theorem dX3_keptVersion_15 : decode cX3_keptVersion 15 = .ok (.aconst_null, 1) := by decide +kernel
theorem dX3_keptVersion_16 : decode cX3_keptVersion 16 = .ok (.areturn, 1) := by decide +kernel
theorem dX3_keptVersion_17 : decode cX3_keptVersion 17 = .ok (.aload_n 0, 1) := by decide +kernel
theorem dX3_keptVersion_18 : decode cX3_keptVersion 18 = .ok (.getfield 12, 3) := by decide +kernel
theorem dX3_keptVersion_21 : decode cX3_keptVersion 21 = .ok (.iload_n 1, 1) := by decide +kernel
theorem dX3_keptVersion_22 : decode cX3_keptVersion 22 = .ok (.invokevirtual 22, 3) := by decide +kernel
theorem dX3_keptVersion_25 : decode cX3_keptVersion 25 = .ok (.checkcast 26, 3) := by decide +kernel
theorem dX3_keptVersion_28 : decode cX3_keptVersion 28 = .ok (.astore_n 2, 1) := by decide +kernel
theorem dX3_keptVersion_29 : decode cX3_keptVersion 29 = .ok (.aload_n 2, 1) := by decide +kernel
theorem dX3_keptVersion_30 : decode cX3_keptVersion 30 = .ok (.getfield 28, 3) := by decide +kernel
theorem dX3_keptVersion_33 : decode cX3_keptVersion 33 = .ok (.iconst 2, 1) := by decide +kernel
theorem dX3_keptVersion_34 : decode cX3_keptVersion 34 = .ok (.if_icmp .ne 7, 3) := by decide +kernel
theorem dX3_keptVersion_37 : decode cX3_keptVersion 37 = .ok (.aconst_null, 1) := by decide +kernel
theorem dX3_keptVersion_38 : decode cX3_keptVersion 38 = .ok (.goto 4, 3) := by decide +kernel
theorem dX3_keptVersion_41 : decode cX3_keptVersion 41 = .ok (.aload_n 2, 1) := by decide +kernel
theorem dX3_keptVersion_42 : decode cX3_keptVersion 42 = .ok (.areturn, 1) := by decide +kernel
theorem dX3_countThere_0 : decode cX3_countThere 0 = .ok (.iconst 0, 1) := by decide +kernel
theorem dX3_countThere_1 : decode cX3_countThere 1 = .ok (.istore_n 1, 1) := by decide +kernel
theorem dX3_countThere_2 : decode cX3_countThere 2 = .ok (.iconst 0, 1) := by decide +kernel
theorem dX3_countThere_3 : decode cX3_countThere 3 = .ok (.istore_n 2, 1) := by decide +kernel
theorem dX3_countThere_4 : decode cX3_countThere 4 = .ok (.iload_n 2, 1) := by decide +kernel
theorem dX3_countThere_5 : decode cX3_countThere 5 = .ok (.aload_n 0, 1) := by decide +kernel
theorem dX3_countThere_6 : decode cX3_countThere 6 = .ok (.getfield 12, 3) := by decide +kernel
theorem dX3_countThere_9 : decode cX3_countThere 9 = .ok (.invokevirtual 18, 3) := by decide +kernel
theorem dX3_countThere_12 : decode cX3_countThere 12 = .ok (.if_icmp .ge 29, 3) := by decide +kernel
theorem dX3_countThere_15 : decode cX3_countThere 15 = .ok (.aload_n 0, 1) := by decide +kernel
theorem dX3_countThere_16 : decode cX3_countThere 16 = .ok (.getfield 12, 3) := by decide +kernel
theorem dX3_countThere_19 : decode cX3_countThere 19 = .ok (.iload_n 2, 1) := by decide +kernel
theorem dX3_countThere_20 : decode cX3_countThere 20 = .ok (.invokevirtual 22, 3) := by decide +kernel
theorem dX3_countThere_23 : decode cX3_countThere 23 = .ok (.checkcast 26, 3) := by decide +kernel
theorem dX3_countThere_26 : decode cX3_countThere 26 = .ok (.getfield 28, 3) := by decide +kernel
theorem dX3_countThere_29 : decode cX3_countThere 29 = .ok (.ifCond .ne 6, 3) := by decide +kernel
theorem dX3_countThere_32 : decode cX3_countThere 32 = .ok (.iinc 1 1, 3) := by decide +kernel
theorem dX3_countThere_35 : decode cX3_countThere 35 = .ok (.iinc 2 1, 3) := by decide +kernel
theorem dX3_countThere_38 : decode cX3_countThere 38 = .ok (.goto (-34), 3) := by decide +kernel
theorem dX3_countThere_41 : decode cX3_countThere 41 = .ok (.iload_n 1, 1) := by decide +kernel
theorem dX3_countThere_42 : decode cX3_countThere 42 = .ok (.ireturn, 1) := by decide +kernel
theorem dX3_lowestLike_0 : decode cX3_lowestLike 0 = .ok (.iconst 0, 1) := by decide +kernel
theorem dX3_lowestLike_1 : decode cX3_lowestLike 1 = .ok (.istore_n 2, 1) := by decide +kernel
theorem dX3_lowestLike_2 : decode cX3_lowestLike 2 = .ok (.iload_n 2, 1) := by decide +kernel
theorem dX3_lowestLike_3 : decode cX3_lowestLike 3 = .ok (.aload_n 0, 1) := by decide +kernel
theorem dX3_lowestLike_4 : decode cX3_lowestLike 4 = .ok (.getfield 12, 3) := by decide +kernel
theorem dX3_lowestLike_7 : decode cX3_lowestLike 7 = .ok (.invokevirtual 18, 3) := by decide +kernel
theorem dX3_lowestLike_10 : decode cX3_lowestLike 10 = .ok (.if_icmp .ge 41, 3) := by decide +kernel
theorem dX3_lowestLike_13 : decode cX3_lowestLike 13 = .ok (.aload_n 0, 1) := by decide +kernel
theorem dX3_lowestLike_14 : decode cX3_lowestLike 14 = .ok (.getfield 12, 3) := by decide +kernel
theorem dX3_lowestLike_17 : decode cX3_lowestLike 17 = .ok (.iload_n 2, 1) := by decide +kernel
theorem dX3_lowestLike_18 : decode cX3_lowestLike 18 = .ok (.invokevirtual 22, 3) := by decide +kernel
theorem dX3_lowestLike_21 : decode cX3_lowestLike 21 = .ok (.checkcast 26, 3) := by decide +kernel
theorem dX3_lowestLike_24 : decode cX3_lowestLike 24 = .ok (.astore_n 3, 1) := by decide +kernel
theorem dX3_lowestLike_25 : decode cX3_lowestLike 25 = .ok (.aload_n 3, 1) := by decide +kernel
theorem dX3_lowestLike_26 : decode cX3_lowestLike 26 = .ok (.getfield 28, 3) := by decide +kernel
theorem dX3_lowestLike_29 : decode cX3_lowestLike 29 = .ok (.ifCond .ne 16, 3) := by decide +kernel
theorem dX3_lowestLike_32 : decode cX3_lowestLike 32 = .ok (.aload_n 3, 1) := by decide +kernel
theorem dX3_lowestLike_33 : decode cX3_lowestLike 33 = .ok (.getfield 32, 3) := by decide +kernel
theorem dX3_lowestLike_36 : decode cX3_lowestLike 36 = .ok (.aload_n 1, 1) := by decide +kernel
theorem dX3_lowestLike_37 : decode cX3_lowestLike 37 = .ok (.invokevirtual 36, 3) := by decide +kernel
theorem dX3_lowestLike_40 : decode cX3_lowestLike 40 = .ok (.ifCond .eq 5, 3) := by decide +kernel
theorem dX3_lowestLike_43 : decode cX3_lowestLike 43 = .ok (.iload_n 2, 1) := by decide +kernel
theorem dX3_lowestLike_44 : decode cX3_lowestLike 44 = .ok (.ireturn, 1) := by decide +kernel
theorem dX3_lowestLike_45 : decode cX3_lowestLike 45 = .ok (.iinc 2 1, 3) := by decide +kernel
theorem dX3_lowestLike_48 : decode cX3_lowestLike 48 = .ok (.goto (-46), 3) := by decide +kernel
theorem dX3_lowestLike_51 : decode cX3_lowestLike 51 = .ok (.iconst (-1), 1) := by decide +kernel
theorem dX3_lowestLike_52 : decode cX3_lowestLike 52 = .ok (.ireturn, 1) := by decide +kernel
theorem dX3_refersTo_0 : decode cX3_refersTo 0 = .ok (.iconst 0, 1) := by decide +kernel
theorem dX3_refersTo_1 : decode cX3_refersTo 1 = .ok (.istore_n 2, 1) := by decide +kernel
theorem dX3_refersTo_2 : decode cX3_refersTo 2 = .ok (.iload_n 2, 1) := by decide +kernel
theorem dX3_refersTo_3 : decode cX3_refersTo 3 = .ok (.aload_n 0, 1) := by decide +kernel
theorem dX3_refersTo_4 : decode cX3_refersTo 4 = .ok (.getfield 12, 3) := by decide +kernel
theorem dX3_refersTo_7 : decode cX3_refersTo 7 = .ok (.invokevirtual 18, 3) := by decide +kernel
theorem dX3_refersTo_10 : decode cX3_refersTo 10 = .ok (.if_icmp .ge 42, 3) := by decide +kernel
theorem dX3_refersTo_13 : decode cX3_refersTo 13 = .ok (.aload_n 0, 1) := by decide +kernel
theorem dX3_refersTo_14 : decode cX3_refersTo 14 = .ok (.getfield 12, 3) := by decide +kernel
theorem dX3_refersTo_17 : decode cX3_refersTo 17 = .ok (.iload_n 2, 1) := by decide +kernel
theorem dX3_refersTo_18 : decode cX3_refersTo 18 = .ok (.invokevirtual 22, 3) := by decide +kernel
theorem dX3_refersTo_21 : decode cX3_refersTo 21 = .ok (.checkcast 26, 3) := by decide +kernel
theorem dX3_refersTo_24 : decode cX3_refersTo 24 = .ok (.astore_n 3, 1) := by decide +kernel
theorem dX3_refersTo_25 : decode cX3_refersTo 25 = .ok (.aload_n 3, 1) := by decide +kernel
theorem dX3_refersTo_26 : decode cX3_refersTo 26 = .ok (.getfield 28, 3) := by decide +kernel
theorem dX3_refersTo_29 : decode cX3_refersTo 29 = .ok (.iconst 2, 1) := by decide +kernel
theorem dX3_refersTo_30 : decode cX3_refersTo 30 = .ok (.if_icmp .eq 16, 3) := by decide +kernel
theorem dX3_refersTo_33 : decode cX3_refersTo 33 = .ok (.aload_n 3, 1) := by decide +kernel
theorem dX3_refersTo_34 : decode cX3_refersTo 34 = .ok (.getfield 32, 3) := by decide +kernel
theorem dX3_refersTo_37 : decode cX3_refersTo 37 = .ok (.iload_n 1, 1) := by decide +kernel
theorem dX3_refersTo_38 : decode cX3_refersTo 38 = .ok (.invokevirtual 42, 3) := by decide +kernel
theorem dX3_refersTo_41 : decode cX3_refersTo 41 = .ok (.ifCond .eq 5, 3) := by decide +kernel
theorem dX3_refersTo_44 : decode cX3_refersTo 44 = .ok (.iconst 1, 1) := by decide +kernel
theorem dX3_refersTo_45 : decode cX3_refersTo 45 = .ok (.ireturn, 1) := by decide +kernel
theorem dX3_refersTo_46 : decode cX3_refersTo 46 = .ok (.iinc 2 1, 3) := by decide +kernel
theorem dX3_refersTo_49 : decode cX3_refersTo 49 = .ok (.goto (-47), 3) := by decide +kernel
theorem dX3_refersTo_52 : decode cX3_refersTo 52 = .ok (.iconst 0, 1) := by decide +kernel
theorem dX3_refersTo_53 : decode cX3_refersTo 53 = .ok (.ireturn, 1) := by decide +kernel
theorem dX3_accepts_0 : decode cX3_accepts 0 = .ok (.aload_n 0, 1) := by decide +kernel
theorem dX3_accepts_1 : decode cX3_accepts 1 = .ok (.getfield 12, 3) := by decide +kernel
theorem dX3_accepts_4 : decode cX3_accepts 4 = .ok (.invokevirtual 18, 3) := by decide +kernel
theorem dX3_accepts_7 : decode cX3_accepts 7 = .ok (.iconst 1, 1) := by decide +kernel
theorem dX3_accepts_8 : decode cX3_accepts 8 = .ok (.isub, 1) := by decide +kernel
theorem dX3_accepts_9 : decode cX3_accepts 9 = .ok (.istore_n 2, 1) := by decide +kernel
theorem dX3_accepts_10 : decode cX3_accepts 10 = .ok (.iload_n 2, 1) := by decide +kernel
theorem dX3_accepts_11 : decode cX3_accepts 11 = .ok (.ifCond .lt 51, 3) := by decide +kernel
theorem dX3_accepts_14 : decode cX3_accepts 14 = .ok (.aload_n 0, 1) := by decide +kernel
theorem dX3_accepts_15 : decode cX3_accepts 15 = .ok (.getfield 12, 3) := by decide +kernel
theorem dX3_accepts_18 : decode cX3_accepts 18 = .ok (.iload_n 2, 1) := by decide +kernel
theorem dX3_accepts_19 : decode cX3_accepts 19 = .ok (.invokevirtual 22, 3) := by decide +kernel
theorem dX3_accepts_22 : decode cX3_accepts 22 = .ok (.checkcast 26, 3) := by decide +kernel
theorem dX3_accepts_25 : decode cX3_accepts 25 = .ok (.astore_n 3, 1) := by decide +kernel
theorem dX3_accepts_26 : decode cX3_accepts 26 = .ok (.aload_n 3, 1) := by decide +kernel
theorem dX3_accepts_27 : decode cX3_accepts 27 = .ok (.getfield 28, 3) := by decide +kernel
theorem dX3_accepts_30 : decode cX3_accepts 30 = .ok (.ifCond .ne 26, 3) := by decide +kernel
theorem dX3_accepts_33 : decode cX3_accepts 33 = .ok (.aload_n 0, 1) := by decide +kernel
theorem dX3_accepts_34 : decode cX3_accepts 34 = .ok (.aload_n 1, 1) := by decide +kernel
theorem dX3_accepts_35 : decode cX3_accepts 35 = .ok (.aload_n 3, 1) := by decide +kernel
theorem dX3_accepts_36 : decode cX3_accepts 36 = .ok (.getfield 32, 3) := by decide +kernel
theorem dX3_accepts_39 : decode cX3_accepts 39 = .ok (.invokevirtual 46, 3) := by decide +kernel
theorem dX3_accepts_42 : decode cX3_accepts 42 = .ok (.ifCond .ne 5, 3) := by decide +kernel
theorem dX3_accepts_45 : decode cX3_accepts 45 = .ok (.iconst 0, 1) := by decide +kernel
theorem dX3_accepts_46 : decode cX3_accepts 46 = .ok (.ireturn, 1) := by decide +kernel
theorem dX3_accepts_47 : decode cX3_accepts 47 = .ok (.aload_n 0, 1) := by decide +kernel
theorem dX3_accepts_48 : decode cX3_accepts 48 = .ok (.getfield 50, 3) := by decide +kernel
theorem dX3_accepts_51 : decode cX3_accepts 51 = .ok (.ifCond .ne 5, 3) := by decide +kernel
theorem dX3_accepts_54 : decode cX3_accepts 54 = .ok (.iconst 1, 1) := by decide +kernel
theorem dX3_accepts_55 : decode cX3_accepts 55 = .ok (.ireturn, 1) := by decide +kernel
theorem dX3_accepts_56 : decode cX3_accepts 56 = .ok (.iinc 2 (-1), 3) := by decide +kernel
theorem dX3_accepts_59 : decode cX3_accepts 59 = .ok (.goto (-49), 3) := by decide +kernel
theorem dX3_accepts_62 : decode cX3_accepts 62 = .ok (.iconst 1, 1) := by decide +kernel
theorem dX3_accepts_63 : decode cX3_accepts 63 = .ok (.ireturn, 1) := by decide +kernel
theorem dX3_agrees_0 : decode cX3_agrees 0 = .ok (.aload_n 0, 1) := by decide +kernel
theorem dX3_agrees_1 : decode cX3_agrees 1 = .ok (.getfield 54, 3) := by decide +kernel
theorem dX3_agrees_4 : decode cX3_agrees 4 = .ok (.iconst 1, 1) := by decide +kernel
theorem dX3_agrees_5 : decode cX3_agrees 5 = .ok (.if_icmp .eq 11, 3) := by decide +kernel
theorem dX3_agrees_8 : decode cX3_agrees 8 = .ok (.aload_n 0, 1) := by decide +kernel
theorem dX3_agrees_9 : decode cX3_agrees 9 = .ok (.getfield 54, 3) := by decide +kernel
theorem dX3_agrees_12 : decode cX3_agrees 12 = .ok (.iconst 3, 1) := by decide +kernel
theorem dX3_agrees_13 : decode cX3_agrees 13 = .ok (.if_icmp .ne 14, 3) := by decide +kernel
theorem dX3_agrees_16 : decode cX3_agrees 16 = .ok (.aload_n 1, 1) := by decide +kernel
theorem dX3_agrees_17 : decode cX3_agrees 17 = .ok (.aload_n 2, 1) := by decide +kernel
theorem dX3_agrees_18 : decode cX3_agrees 18 = .ok (.iconst 0, 1) := by decide +kernel
theorem dX3_agrees_19 : decode cX3_agrees 19 = .ok (.invokestatic 57, 3) := by decide +kernel
theorem dX3_agrees_22 : decode cX3_agrees 22 = .ok (.ifCond .ne 5, 3) := by decide +kernel
theorem dX3_agrees_25 : decode cX3_agrees 25 = .ok (.iconst 0, 1) := by decide +kernel
theorem dX3_agrees_26 : decode cX3_agrees 26 = .ok (.ireturn, 1) := by decide +kernel
theorem dX3_agrees_27 : decode cX3_agrees 27 = .ok (.aload_n 0, 1) := by decide +kernel
theorem dX3_agrees_28 : decode cX3_agrees 28 = .ok (.getfield 54, 3) := by decide +kernel
theorem dX3_agrees_31 : decode cX3_agrees 31 = .ok (.iconst 2, 1) := by decide +kernel
theorem dX3_agrees_32 : decode cX3_agrees 32 = .ok (.if_icmp .eq 11, 3) := by decide +kernel
theorem dX3_agrees_35 : decode cX3_agrees 35 = .ok (.aload_n 0, 1) := by decide +kernel
theorem dX3_agrees_36 : decode cX3_agrees 36 = .ok (.getfield 54, 3) := by decide +kernel
theorem dX3_agrees_39 : decode cX3_agrees 39 = .ok (.iconst 3, 1) := by decide +kernel
theorem dX3_agrees_40 : decode cX3_agrees 40 = .ok (.if_icmp .ne 12, 3) := by decide +kernel
theorem dX3_agrees_43 : decode cX3_agrees 43 = .ok (.aload_n 2, 1) := by decide +kernel
theorem dX3_agrees_44 : decode cX3_agrees 44 = .ok (.aload_n 1, 1) := by decide +kernel
theorem dX3_agrees_45 : decode cX3_agrees 45 = .ok (.iconst 0, 1) := by decide +kernel
theorem dX3_agrees_46 : decode cX3_agrees 46 = .ok (.invokestatic 57, 3) := by decide +kernel
theorem dX3_agrees_49 : decode cX3_agrees 49 = .ok (.ifCond .eq 7, 3) := by decide +kernel
theorem dX3_agrees_52 : decode cX3_agrees 52 = .ok (.iconst 1, 1) := by decide +kernel
theorem dX3_agrees_53 : decode cX3_agrees 53 = .ok (.goto 4, 3) := by decide +kernel
theorem dX3_agrees_56 : decode cX3_agrees 56 = .ok (.iconst 0, 1) := by decide +kernel
theorem dX3_agrees_57 : decode cX3_agrees 57 = .ok (.ireturn, 1) := by decide +kernel
theorem dX4_init_0 : decode cX4_init 0 = .ok (.aload_n 0, 1) := by decide +kernel
theorem dX4_init_1 : decode cX4_init 1 = .ok (.invokespecial 3, 3) := by decide +kernel
theorem dX4_init_4 : decode cX4_init 4 = .ok (.aload_n 0, 1) := by decide +kernel
theorem dX4_init_5 : decode cX4_init 5 = .ok (.aload_n 1, 1) := by decide +kernel
theorem dX4_init_6 : decode cX4_init 6 = .ok (.putfield 9, 3) := by decide +kernel
theorem dX4_init_9 : decode cX4_init 9 = .ok (.aload_n 0, 1) := by decide +kernel
theorem dX4_init_10 : decode cX4_init 10 = .ok (.iconst 0, 1) := by decide +kernel
theorem dX4_init_11 : decode cX4_init 11 = .ok (.putfield 15, 3) := by decide +kernel
theorem dX4_init_14 : decode cX4_init 14 = .ok (.return_, 1) := by decide +kernel
theorem dX5_init_0 : decode cX5_init 0 = .ok (.aload_n 0, 1) := by decide +kernel
theorem dX5_init_1 : decode cX5_init 1 = .ok (.invokespecial 1, 3) := by decide +kernel
theorem dX5_init_4 : decode cX5_init 4 = .ok (.aload_n 0, 1) := by decide +kernel
theorem dX5_init_5 : decode cX5_init 5 = .ok (.new 7, 3) := by decide +kernel
theorem dX5_init_8 : decode cX5_init 8 = .ok (.dup, 1) := by decide +kernel
theorem dX5_init_9 : decode cX5_init 9 = .ok (.invokespecial 9, 3) := by decide +kernel
theorem dX5_init_12 : decode cX5_init 12 = .ok (.putfield 10, 3) := by decide +kernel
theorem dX5_init_15 : decode cX5_init 15 = .ok (.iconst 0, 1) := by decide +kernel
theorem dX5_init_16 : decode cX5_init 16 = .ok (.istore_n 1, 1) := by decide +kernel
theorem dX5_init_17 : decode cX5_init 17 = .ok (.iload_n 1, 1) := by decide +kernel
theorem dX5_init_18 : decode cX5_init 18 = .ok (.bipush 6, 2) := by decide +kernel
theorem dX5_init_20 : decode cX5_init 20 = .ok (.if_icmp .ge 24, 3) := by decide +kernel
theorem dX5_init_23 : decode cX5_init 23 = .ok (.aload_n 0, 1) := by decide +kernel
theorem dX5_init_24 : decode cX5_init 24 = .ok (.getfield 10, 3) := by decide +kernel
theorem dX5_init_27 : decode cX5_init 27 = .ok (.new 16, 3) := by decide +kernel
theorem dX5_init_30 : decode cX5_init 30 = .ok (.dup, 1) := by decide +kernel
theorem dX5_init_31 : decode cX5_init 31 = .ok (.invokespecial 18, 3) := by decide +kernel
theorem dX5_init_34 : decode cX5_init 34 = .ok (.invokevirtual 19, 3) := by decide +kernel
theorem dX5_init_37 : decode cX5_init 37 = .ok (.pop, 1) := by decide +kernel
theorem dX5_init_38 : decode cX5_init 38 = .ok (.iinc 1 1, 3) := by decide +kernel
theorem dX5_init_41 : decode cX5_init 41 = .ok (.goto (-24), 3) := by decide +kernel
theorem dX5_init_44 : decode cX5_init 44 = .ok (.aload_n 0, 1) := by decide +kernel
theorem dX5_init_45 : decode cX5_init 45 = .ok (.new 7, 3) := by decide +kernel
theorem dX5_init_48 : decode cX5_init 48 = .ok (.dup, 1) := by decide +kernel
theorem dX5_init_49 : decode cX5_init 49 = .ok (.invokespecial 9, 3) := by decide +kernel
theorem dX5_init_52 : decode cX5_init 52 = .ok (.putfield 23, 3) := by decide +kernel
theorem dX5_init_55 : decode cX5_init 55 = .ok (.aload_n 0, 1) := by decide +kernel
theorem dX5_init_56 : decode cX5_init 56 = .ok (.new 26, 3) := by decide +kernel
theorem dX5_init_59 : decode cX5_init 59 = .ok (.dup, 1) := by decide +kernel
theorem dX5_init_60 : decode cX5_init 60 = .ok (.invokespecial 28, 3) := by decide +kernel
theorem dX5_init_63 : decode cX5_init 63 = .ok (.putfield 29, 3) := by decide +kernel
theorem dX5_init_66 : decode cX5_init 66 = .ok (.aload_n 0, 1) := by decide +kernel
theorem dX5_init_67 : decode cX5_init 67 = .ok (.new 33, 3) := by decide +kernel
theorem dX5_init_70 : decode cX5_init 70 = .ok (.dup, 1) := by decide +kernel
theorem dX5_init_71 : decode cX5_init 71 = .ok (.invokespecial 35, 3) := by decide +kernel
theorem dX5_init_74 : decode cX5_init 74 = .ok (.putfield 36, 3) := by decide +kernel
theorem dX5_init_77 : decode cX5_init 77 = .ok (.aload_n 0, 1) := by decide +kernel
theorem dX5_init_78 : decode cX5_init 78 = .ok (.new 33, 3) := by decide +kernel
theorem dX5_init_81 : decode cX5_init 81 = .ok (.dup, 1) := by decide +kernel
theorem dX5_init_82 : decode cX5_init 82 = .ok (.invokespecial 35, 3) := by decide +kernel
theorem dX5_init_85 : decode cX5_init 85 = .ok (.putfield 40, 3) := by decide +kernel
theorem dX5_init_88 : decode cX5_init 88 = .ok (.aload_n 0, 1) := by decide +kernel
theorem dX5_init_89 : decode cX5_init 89 = .ok (.new 33, 3) := by decide +kernel
theorem dX5_init_92 : decode cX5_init 92 = .ok (.dup, 1) := by decide +kernel
theorem dX5_init_93 : decode cX5_init 93 = .ok (.invokespecial 35, 3) := by decide +kernel
theorem dX5_init_96 : decode cX5_init 96 = .ok (.putfield 43, 3) := by decide +kernel
theorem dX5_init_99 : decode cX5_init 99 = .ok (.return_, 1) := by decide +kernel
theorem dX5_field_0 : decode cX5_field 0 = .ok (.iload_n 1, 1) := by decide +kernel
theorem dX5_field_1 : decode cX5_field 1 = .ok (.invokestatic 46, 3) := by decide +kernel
theorem dX5_field_4 : decode cX5_field 4 = .ok (.ifCond .eq 30, 3) := by decide +kernel
theorem dX5_field_7 : decode cX5_field 7 = .ok (.iload_n 2, 1) := by decide +kernel
theorem dX5_field_8 : decode cX5_field 8 = .ok (.invokestatic 50, 3) := by decide +kernel
theorem dX5_field_11 : decode cX5_field 11 = .ok (.ifCond .eq 23, 3) := by decide +kernel
theorem dX5_field_14 : decode cX5_field 14 = .ok (.iload 4, 2) := by decide +kernel
theorem dX5_field_16 : decode cX5_field 16 = .ok (.iload_n 1, 1) := by decide +kernel
theorem dX5_field_17 : decode cX5_field 17 = .ok (.if_icmp .eq 17, 3) := by decide +kernel
theorem dX5_field_20 : decode cX5_field 20 = .ok (.iload 4, 2) := by decide +kernel
theorem dX5_field_22 : decode cX5_field 22 = .ok (.iconst (-1), 1) := by decide +kernel
theorem dX5_field_23 : decode cX5_field 23 = .ok (.if_icmp .eq 21, 3) := by decide +kernel
theorem dX5_field_26 : decode cX5_field 26 = .ok (.iload 4, 2) := by decide +kernel
theorem dX5_field_28 : decode cX5_field 28 = .ok (.invokestatic 46, 3) := by decide +kernel
theorem dX5_field_31 : decode cX5_field 31 = .ok (.ifCond .ne 13, 3) := by decide +kernel
theorem dX5_field_34 : decode cX5_field 34 = .ok (.new 53, 3) := by decide +kernel
theorem dX5_field_37 : decode cX5_field 37 = .ok (.dup, 1) := by decide +kernel
theorem dX5_field_38 : decode cX5_field 38 = .ok (.ldc 55, 2) := by decide +kernel
theorem dX5_field_40 : decode cX5_field 40 = .ok (.invokespecial 57, 3) := by decide +kernel
theorem dX5_field_43 : decode cX5_field 43 = .ok (.athrow, 1) := by decide +kernel
theorem dX5_field_44 : decode cX5_field 44 = .ok (.iload_n 2, 1) := by decide +kernel
theorem dX5_field_45 : decode cX5_field 45 = .ok (.iconst 3, 1) := by decide +kernel
theorem dX5_field_46 : decode cX5_field 46 = .ok (.if_icmp .ne 20, 3) := by decide +kernel
theorem dX5_field_49 : decode cX5_field 49 = .ok (.iload_n 3, 1) := by decide +kernel
theorem dX5_field_50 : decode cX5_field 50 = .ok (.invokestatic 60, 3) := by decide +kernel
theorem dX5_field_53 : decode cX5_field 53 = .ok (.ifCond .ne 13, 3) := by decide +kernel
theorem dX5_field_56 : decode cX5_field 56 = .ok (.new 53, 3) := by decide +kernel
theorem dX5_field_59 : decode cX5_field 59 = .ok (.dup, 1) := by decide +kernel
theorem dX5_field_60 : decode cX5_field 60 = .ok (.ldc 63, 2) := by decide +kernel
theorem dX5_field_62 : decode cX5_field 62 = .ok (.invokespecial 57, 3) := by decide +kernel
theorem dX5_field_65 : decode cX5_field 65 = .ok (.athrow, 1) := by decide +kernel
theorem dX5_field_66 : decode cX5_field 66 = .ok (.iload_n 2, 1) := by decide +kernel
theorem dX5_field_67 : decode cX5_field 67 = .ok (.iconst 4, 1) := by decide +kernel
theorem dX5_field_68 : decode cX5_field 68 = .ok (.if_icmp .ne 11, 3) := by decide +kernel
theorem dX5_field_71 : decode cX5_field 71 = .ok (.aload_n 0, 1) := by decide +kernel
theorem dX5_field_72 : decode cX5_field 72 = .ok (.iload_n 3, 1) := by decide +kernel
theorem dX5_field_73 : decode cX5_field 73 = .ok (.invokevirtual 65, 3) := by decide +kernel
theorem dX5_field_76 : decode cX5_field 76 = .ok (.goto 4, 3) := by decide +kernel
theorem dX5_field_79 : decode cX5_field 79 = .ok (.aconst_null, 1) := by decide +kernel
theorem dX5_field_80 : decode cX5_field 80 = .ok (.astore 5, 2) := by decide +kernel
theorem dX5_field_82 : decode cX5_field 82 = .ok (.iload_n 2, 1) := by decide +kernel
theorem dX5_field_83 : decode cX5_field 83 = .ok (.iconst 4, 1) := by decide +kernel
theorem dX5_field_84 : decode cX5_field 84 = .ok (.if_icmp .ne 18, 3) := by decide +kernel
theorem dX5_field_87 : decode cX5_field 87 = .ok (.aload 5, 2) := by decide +kernel
theorem dX5_field_89 : decode cX5_field 89 = .ok (.ifnonnull 13, 3) := by decide +kernel
theorem dX5_field_92 : decode cX5_field 92 = .ok (.new 69, 3) := by decide +kernel
theorem dX5_field_95 : decode cX5_field 95 = .ok (.dup, 1) := by decide +kernel
theorem dX5_field_96 : decode cX5_field 96 = .ok (.ldc 71, 2) := by decide +kernel
theorem dX5_field_98 : decode cX5_field 98 = .ok (.invokespecial 73, 3) := by decide +kernel
theorem dX5_field_101 : decode cX5_field 101 = .ok (.athrow, 1) := by decide +kernel
theorem dX5_field_102 : decode cX5_field 102 = .ok (.aload 5, 2) := by decide +kernel
theorem dX5_field_104 : decode cX5_field 104 = .ok (.ifnonnull 7, 3) := by decide +kernel
theorem dX5_field_107 : decode cX5_field 107 = .ok (.iconst 1, 1) := by decide +kernel
theorem dX5_field_108 : decode cX5_field 108 = .ok (.goto 11, 3) := by decide +kernel
theorem dX5_field_111 : decode cX5_field 111 = .ok (.aload 5, 2) := by decide +kernel
theorem dX5_field_113 : decode cX5_field 113 = .ok (.getfield 74, 3) := by decide +kernel
theorem dX5_field_116 : decode cX5_field 116 = .ok (.invokevirtual 77, 3) := by decide +kernel
theorem dX5_field_119 : decode cX5_field 119 = .ok (.istore 6, 2) := by decide +kernel
theorem dX5_field_121 : decode cX5_field 121 = .ok (.aload_n 0, 1) := by decide +kernel
theorem dX5_field_122 : decode cX5_field 122 = .ok (.getfield 29, 3) := by decide +kernel
theorem dX5_field_125 : decode cX5_field 125 = .ok (.getfield 81, 3) := by decide +kernel
theorem dX5_field_128 : decode cX5_field 128 = .ok (.invokevirtual 84, 3) := by decide +kernel
theorem dX5_field_131 : decode cX5_field 131 = .ok (.iconst 5, 1) := by decide +kernel
theorem dX5_field_132 : decode cX5_field 132 = .ok (.if_icmp .ge 32, 3) := by decide +kernel
theorem dX5_field_135 : decode cX5_field 135 = .ok (.aload_n 0, 1) := by decide +kernel
theorem dX5_field_136 : decode cX5_field 136 = .ok (.getfield 29, 3) := by decide +kernel
theorem dX5_field_139 : decode cX5_field 139 = .ok (.iload_n 1, 1) := by decide +kernel
theorem dX5_field_140 : decode cX5_field 140 = .ok (.invokevirtual 87, 3) := by decide +kernel
theorem dX5_field_143 : decode cX5_field 143 = .ok (.ifnonnull 21, 3) := by decide +kernel
theorem dX5_field_146 : decode cX5_field 146 = .ok (.aload_n 0, 1) := by decide +kernel
theorem dX5_field_147 : decode cX5_field 147 = .ok (.getfield 29, 3) := by decide +kernel
theorem dX5_field_150 : decode cX5_field 150 = .ok (.getfield 74, 3) := by decide +kernel
theorem dX5_field_153 : decode cX5_field 153 = .ok (.invokevirtual 77, 3) := by decide +kernel
theorem dX5_field_156 : decode cX5_field 156 = .ok (.iload 6, 2) := by decide +kernel
theorem dX5_field_158 : decode cX5_field 158 = .ok (.iadd, 1) := by decide +kernel
theorem dX5_field_159 : decode cX5_field 159 = .ok (.bipush 20, 2) := by decide +kernel
theorem dX5_field_161 : decode cX5_field 161 = .ok (.if_icmp .le 13, 3) := by decide +kernel
theorem dX5_field_164 : decode cX5_field 164 = .ok (.new 91, 3) := by decide +kernel
theorem dX5_field_167 : decode cX5_field 167 = .ok (.dup, 1) := by decide +kernel
theorem dX5_field_168 : decode cX5_field 168 = .ok (.ldc 93, 2) := by decide +kernel
theorem dX5_field_170 : decode cX5_field 170 = .ok (.invokespecial 95, 3) := by decide +kernel
theorem dX5_field_173 : decode cX5_field 173 = .ok (.athrow, 1) := by decide +kernel
theorem dX5_field_174 : decode cX5_field 174 = .ok (.iload_n 2, 1) := by decide +kernel
theorem dX5_field_175 : decode cX5_field 175 = .ok (.iconst 4, 1) := by decide +kernel
theorem dX5_field_176 : decode cX5_field 176 = .ok (.if_icmp .ne 7, 3) := by decide +kernel
theorem dX5_field_179 : decode cX5_field 179 = .ok (.iload_n 3, 1) := by decide +kernel
theorem dX5_field_180 : decode cX5_field 180 = .ok (.goto 4, 3) := by decide +kernel
theorem dX5_field_183 : decode cX5_field 183 = .ok (.iconst (-1), 1) := by decide +kernel
theorem dX5_field_184 : decode cX5_field 184 = .ok (.istore 7, 2) := by decide +kernel
theorem dX5_field_186 : decode cX5_field 186 = .ok (.aload_n 0, 1) := by decide +kernel
theorem dX5_field_187 : decode cX5_field 187 = .ok (.getfield 29, 3) := by decide +kernel
theorem dX5_field_190 : decode cX5_field 190 = .ok (.new 96, 3) := by decide +kernel
theorem dX5_field_193 : decode cX5_field 193 = .ok (.dup, 1) := by decide +kernel
theorem dX5_field_194 : decode cX5_field 194 = .ok (.iload_n 1, 1) := by decide +kernel
theorem dX5_field_195 : decode cX5_field 195 = .ok (.iload_n 2, 1) := by decide +kernel
theorem dX5_field_196 : decode cX5_field 196 = .ok (.iload_n 2, 1) := by decide +kernel
theorem dX5_field_197 : decode cX5_field 197 = .ok (.iload_n 3, 1) := by decide +kernel
theorem dX5_field_198 : decode cX5_field 198 = .ok (.invokestatic 98, 3) := by decide +kernel
theorem dX5_field_201 : decode cX5_field 201 = .ok (.iload 4, 2) := by decide +kernel
theorem dX5_field_203 : decode cX5_field 203 = .ok (.iload 7, 2) := by decide +kernel
theorem dX5_field_205 : decode cX5_field 205 = .ok (.aload 5, 2) := by decide +kernel
theorem dX5_field_207 : decode cX5_field 207 = .ok (.invokespecial 102, 3) := by decide +kernel
theorem dX5_field_210 : decode cX5_field 210 = .ok (.invokevirtual 105, 3) := by decide +kernel
theorem dX5_field_213 : decode cX5_field 213 = .ok (.aload_n 0, 1) := by decide +kernel
theorem dX5_field_214 : decode cX5_field 214 = .ok (.getfield 29, 3) := by decide +kernel
theorem dX5_field_217 : decode cX5_field 217 = .ok (.getfield 81, 3) := by decide +kernel
theorem dX5_field_220 : decode cX5_field 220 = .ok (.invokevirtual 84, 3) := by decide +kernel
theorem dX5_field_223 : decode cX5_field 223 = .ok (.ireturn, 1) := by decide +kernel
theorem dX5_byDefault_0 : decode cX5_byDefault 0 = .ok (.aload_n 0, 1) := by decide +kernel
theorem dX5_byDefault_1 : decode cX5_byDefault 1 = .ok (.getfield 29, 3) := by decide +kernel
theorem dX5_byDefault_4 : decode cX5_byDefault 4 = .ok (.invokevirtual 109, 3) := by decide +kernel
theorem dX5_byDefault_7 : decode cX5_byDefault 7 = .ok (.astore_n 2, 1) := by decide +kernel
theorem dX5_byDefault_8 : decode cX5_byDefault 8 = .ok (.aload_n 2, 1) := by decide +kernel
theorem dX5_byDefault_9 : decode cX5_byDefault 9 = .ok (.ifnull 11, 3) := by decide +kernel
theorem dX5_byDefault_12 : decode cX5_byDefault 12 = .ok (.aload_n 2, 1) := by decide +kernel
theorem dX5_byDefault_13 : decode cX5_byDefault 13 = .ok (.getfield 113, 3) := by decide +kernel
theorem dX5_byDefault_16 : decode cX5_byDefault 16 = .ok (.iconst 4, 1) := by decide +kernel
theorem dX5_byDefault_17 : decode cX5_byDefault 17 = .ok (.if_icmp .ne 13, 3) := by decide +kernel
theorem dX5_byDefault_20 : decode cX5_byDefault 20 = .ok (.new 91, 3) := by decide +kernel
theorem dX5_byDefault_23 : decode cX5_byDefault 23 = .ok (.dup, 1) := by decide +kernel
theorem dX5_byDefault_24 : decode cX5_byDefault 24 = .ok (.ldc 117, 2) := by decide +kernel
theorem dX5_byDefault_26 : decode cX5_byDefault 26 = .ok (.invokespecial 95, 3) := by decide +kernel
theorem dX5_byDefault_29 : decode cX5_byDefault 29 = .ok (.athrow, 1) := by decide +kernel
theorem dX5_byDefault_30 : decode cX5_byDefault 30 = .ok (.iload_n 1, 1) := by decide +kernel
theorem dX5_byDefault_31 : decode cX5_byDefault 31 = .ok (.aload_n 2, 1) := by decide +kernel
theorem dX5_byDefault_32 : decode cX5_byDefault 32 = .ok (.getfield 119, 3) := by decide +kernel
theorem dX5_byDefault_35 : decode cX5_byDefault 35 = .ok (.invokestatic 121, 3) := by decide +kernel
theorem dX5_byDefault_38 : decode cX5_byDefault 38 = .ok (.ifCond .ne 13, 3) := by decide +kernel
theorem dX5_byDefault_41 : decode cX5_byDefault 41 = .ok (.new 53, 3) := by decide +kernel
theorem dX5_byDefault_44 : decode cX5_byDefault 44 = .ok (.dup, 1) := by decide +kernel
theorem dX5_byDefault_45 : decode cX5_byDefault 45 = .ok (.ldc 125, 2) := by decide +kernel
theorem dX5_byDefault_47 : decode cX5_byDefault 47 = .ok (.invokespecial 57, 3) := by decide +kernel
theorem dX5_byDefault_50 : decode cX5_byDefault 50 = .ok (.athrow, 1) := by decide +kernel
theorem dX5_byDefault_51 : decode cX5_byDefault 51 = .ok (.aload_n 2, 1) := by decide +kernel
theorem dX5_byDefault_52 : decode cX5_byDefault 52 = .ok (.iconst 1, 1) := by decide +kernel
theorem dX5_byDefault_53 : decode cX5_byDefault 53 = .ok (.putfield 127, 3) := by decide +kernel
theorem dX5_byDefault_56 : decode cX5_byDefault 56 = .ok (.aload_n 2, 1) := by decide +kernel
theorem dX5_byDefault_57 : decode cX5_byDefault 57 = .ok (.iload_n 1, 1) := by decide +kernel
theorem dX5_byDefault_58 : decode cX5_byDefault 58 = .ok (.putfield 131, 3) := by decide +kernel
theorem dX5_byDefault_61 : decode cX5_byDefault 61 = .ok (.aload_n 2, 1) := by decide +kernel
theorem dX5_byDefault_62 : decode cX5_byDefault 62 = .ok (.getfield 134, 3) := by decide +kernel
theorem dX5_byDefault_65 : decode cX5_byDefault 65 = .ok (.ireturn, 1) := by decide +kernel
theorem dX5_discard_0 : decode cX5_discard 0 = .ok (.aload_n 0, 1) := by decide +kernel
theorem dX5_discard_1 : decode cX5_discard 1 = .ok (.getfield 29, 3) := by decide +kernel
theorem dX5_discard_4 : decode cX5_discard 4 = .ok (.getfield 81, 3) := by decide +kernel
theorem dX5_discard_7 : decode cX5_discard 7 = .ok (.invokevirtual 84, 3) := by decide +kernel
theorem dX5_discard_10 : decode cX5_discard 10 = .ok (.istore_n 1, 1) := by decide +kernel
theorem dX5_discard_11 : decode cX5_discard 11 = .ok (.aload_n 0, 1) := by decide +kernel
theorem dX5_discard_12 : decode cX5_discard 12 = .ok (.getfield 29, 3) := by decide +kernel
theorem dX5_discard_15 : decode cX5_discard 15 = .ok (.invokevirtual 137, 3) := by decide +kernel
theorem dX5_discard_18 : decode cX5_discard 18 = .ok (.iload_n 1, 1) := by decide +kernel
theorem dX5_discard_19 : decode cX5_discard 19 = .ok (.ireturn, 1) := by decide +kernel
theorem dX5_isAccepted_0 : decode cX5_isAccepted 0 = .ok (.aload_n 0, 1) := by decide +kernel
theorem dX5_isAccepted_1 : decode cX5_isAccepted 1 = .ok (.iload_n 1, 1) := by decide +kernel
theorem dX5_isAccepted_2 : decode cX5_isAccepted 2 = .ok (.invokevirtual 140, 3) := by decide +kernel
theorem dX5_isAccepted_5 : decode cX5_isAccepted 5 = .ok (.astore_n 2, 1) := by decide +kernel
theorem dX5_isAccepted_6 : decode cX5_isAccepted 6 = .ok (.aload_n 0, 1) := by decide +kernel
theorem dX5_isAccepted_7 : decode cX5_isAccepted 7 = .ok (.invokevirtual 144, 3) := by decide +kernel
theorem dX5_isAccepted_10 : decode cX5_isAccepted 10 = .ok (.aload_n 2, 1) := by decide +kernel
theorem dX5_isAccepted_11 : decode cX5_isAccepted 11 = .ok (.aload_n 0, 1) := by decide +kernel
theorem dX5_isAccepted_12 : decode cX5_isAccepted 12 = .ok (.getfield 29, 3) := by decide +kernel
theorem dX5_isAccepted_15 : decode cX5_isAccepted 15 = .ok (.invokevirtual 147, 3) := by decide +kernel
theorem dX5_isAccepted_18 : decode cX5_isAccepted 18 = .ok (.ireturn, 1) := by decide +kernel
theorem dX5_register_0 : decode cX5_register 0 = .ok (.aload_n 0, 1) := by decide +kernel
theorem dX5_register_1 : decode cX5_register 1 = .ok (.iload_n 1, 1) := by decide +kernel
theorem dX5_register_2 : decode cX5_register 2 = .ok (.invokevirtual 140, 3) := by decide +kernel
theorem dX5_register_5 : decode cX5_register 5 = .ok (.astore_n 2, 1) := by decide +kernel
theorem dX5_register_6 : decode cX5_register 6 = .ok (.aload_n 0, 1) := by decide +kernel
theorem dX5_register_7 : decode cX5_register 7 = .ok (.invokevirtual 144, 3) := by decide +kernel
theorem dX5_register_10 : decode cX5_register 10 = .ok (.aload_n 2, 1) := by decide +kernel
theorem dX5_register_11 : decode cX5_register 11 = .ok (.aload_n 0, 1) := by decide +kernel
theorem dX5_register_12 : decode cX5_register 12 = .ok (.getfield 29, 3) := by decide +kernel
theorem dX5_register_15 : decode cX5_register 15 = .ok (.invokevirtual 151, 3) := by decide +kernel
theorem dX5_register_18 : decode cX5_register 18 = .ok (.istore_n 3, 1) := by decide +kernel
theorem dX5_register_19 : decode cX5_register 19 = .ok (.iload_n 3, 1) := by decide +kernel
theorem dX5_register_20 : decode cX5_register 20 = .ok (.iconst (-1), 1) := by decide +kernel
theorem dX5_register_21 : decode cX5_register 21 = .ok (.if_icmp .eq 12, 3) := by decide +kernel
theorem dX5_register_24 : decode cX5_register 24 = .ok (.aload_n 0, 1) := by decide +kernel
theorem dX5_register_25 : decode cX5_register 25 = .ok (.getfield 29, 3) := by decide +kernel
theorem dX5_register_28 : decode cX5_register 28 = .ok (.invokevirtual 137, 3) := by decide +kernel
theorem dX5_register_31 : decode cX5_register 31 = .ok (.iload_n 3, 1) := by decide +kernel
theorem dX5_register_32 : decode cX5_register 32 = .ok (.ireturn, 1) := by decide +kernel
theorem dX5_register_33 : decode cX5_register 33 = .ok (.aload_n 2, 1) := by decide +kernel
theorem dX5_register_34 : decode cX5_register 34 = .ok (.getfield 155, 3) := by decide +kernel
theorem dX5_register_37 : decode cX5_register 37 = .ok (.invokevirtual 84, 3) := by decide +kernel
theorem dX5_register_40 : decode cX5_register 40 = .ok (.istore 4, 2) := by decide +kernel
theorem dX5_register_42 : decode cX5_register 42 = .ok (.iload 4, 2) := by decide +kernel
theorem dX5_register_44 : decode cX5_register 44 = .ok (.bipush 6, 2) := by decide +kernel
theorem dX5_register_46 : decode cX5_register 46 = .ok (.if_icmp .ge 14, 3) := by decide +kernel
theorem dX5_register_49 : decode cX5_register 49 = .ok (.aload_n 2, 1) := by decide +kernel
theorem dX5_register_50 : decode cX5_register 50 = .ok (.aload_n 0, 1) := by decide +kernel
theorem dX5_register_51 : decode cX5_register 51 = .ok (.getfield 29, 3) := by decide +kernel
theorem dX5_register_54 : decode cX5_register 54 = .ok (.invokevirtual 147, 3) := by decide +kernel
theorem dX5_register_57 : decode cX5_register 57 = .ok (.ifCond .ne 13, 3) := by decide +kernel
theorem dX5_register_60 : decode cX5_register 60 = .ok (.new 91, 3) := by decide +kernel
theorem dX5_register_63 : decode cX5_register 63 = .ok (.dup, 1) := by decide +kernel
theorem dX5_register_64 : decode cX5_register 64 = .ok (.ldc 158, 2) := by decide +kernel
theorem dX5_register_66 : decode cX5_register 66 = .ok (.invokespecial 95, 3) := by decide +kernel
theorem dX5_register_69 : decode cX5_register 69 = .ok (.athrow, 1) := by decide +kernel
theorem dX5_register_70 : decode cX5_register 70 = .ok (.aload_n 2, 1) := by decide +kernel
theorem dX5_register_71 : decode cX5_register 71 = .ok (.getfield 155, 3) := by decide +kernel
theorem dX5_register_74 : decode cX5_register 74 = .ok (.new 160, 3) := by decide +kernel
theorem dX5_register_77 : decode cX5_register 77 = .ok (.dup, 1) := by decide +kernel
theorem dX5_register_78 : decode cX5_register 78 = .ok (.aload_n 0, 1) := by decide +kernel
theorem dX5_register_79 : decode cX5_register 79 = .ok (.invokevirtual 162, 3) := by decide +kernel
theorem dX5_register_82 : decode cX5_register 82 = .ok (.invokespecial 166, 3) := by decide +kernel
theorem dX5_register_85 : decode cX5_register 85 = .ok (.invokevirtual 19, 3) := by decide +kernel
theorem dX5_register_88 : decode cX5_register 88 = .ok (.pop, 1) := by decide +kernel
theorem dX5_register_89 : decode cX5_register 89 = .ok (.iload 4, 2) := by decide +kernel
theorem dX5_register_91 : decode cX5_register 91 = .ok (.ireturn, 1) := by decide +kernel
theorem dX5_setMode_0 : decode cX5_setMode 0 = .ok (.aload_n 0, 1) := by decide +kernel
theorem dX5_setMode_1 : decode cX5_setMode 1 = .ok (.iload_n 1, 1) := by decide +kernel
theorem dX5_setMode_2 : decode cX5_setMode 2 = .ok (.invokevirtual 140, 3) := by decide +kernel
theorem dX5_setMode_5 : decode cX5_setMode 5 = .ok (.astore 4, 2) := by decide +kernel
theorem dX5_setMode_7 : decode cX5_setMode 7 = .ok (.iload_n 2, 1) := by decide +kernel
theorem dX5_setMode_8 : decode cX5_setMode 8 = .ok (.ifCond .lt 8, 3) := by decide +kernel
theorem dX5_setMode_11 : decode cX5_setMode 11 = .ok (.iload_n 2, 1) := by decide +kernel
theorem dX5_setMode_12 : decode cX5_setMode 12 = .ok (.iconst 3, 1) := by decide +kernel
theorem dX5_setMode_13 : decode cX5_setMode 13 = .ok (.if_icmp .le 13, 3) := by decide +kernel
theorem dX5_setMode_16 : decode cX5_setMode 16 = .ok (.new 53, 3) := by decide +kernel
theorem dX5_setMode_19 : decode cX5_setMode 19 = .ok (.dup, 1) := by decide +kernel
theorem dX5_setMode_20 : decode cX5_setMode 20 = .ok (.ldc 169, 2) := by decide +kernel
theorem dX5_setMode_22 : decode cX5_setMode 22 = .ok (.invokespecial 57, 3) := by decide +kernel
theorem dX5_setMode_25 : decode cX5_setMode 25 = .ok (.athrow, 1) := by decide +kernel
theorem dX5_setMode_26 : decode cX5_setMode 26 = .ok (.aload 4, 2) := by decide +kernel
theorem dX5_setMode_28 : decode cX5_setMode 28 = .ok (.getfield 171, 3) := by decide +kernel
theorem dX5_setMode_31 : decode cX5_setMode 31 = .ok (.istore 5, 2) := by decide +kernel
theorem dX5_setMode_33 : decode cX5_setMode 33 = .ok (.aload 4, 2) := by decide +kernel
theorem dX5_setMode_35 : decode cX5_setMode 35 = .ok (.iload_n 2, 1) := by decide +kernel
theorem dX5_setMode_36 : decode cX5_setMode 36 = .ok (.putfield 171, 3) := by decide +kernel
theorem dX5_setMode_39 : decode cX5_setMode 39 = .ok (.aload 4, 2) := by decide +kernel
theorem dX5_setMode_41 : decode cX5_setMode 41 = .ok (.iload_n 3, 1) := by decide +kernel
theorem dX5_setMode_42 : decode cX5_setMode 42 = .ok (.putfield 174, 3) := by decide +kernel
theorem dX5_setMode_45 : decode cX5_setMode 45 = .ok (.iload 5, 2) := by decide +kernel
theorem dX5_setMode_47 : decode cX5_setMode 47 = .ok (.ireturn, 1) := by decide +kernel
theorem dX5_delete_0 : decode cX5_delete 0 = .ok (.aload_n 0, 1) := by decide +kernel
theorem dX5_delete_1 : decode cX5_delete 1 = .ok (.iload_n 1, 1) := by decide +kernel
theorem dX5_delete_2 : decode cX5_delete 2 = .ok (.invokevirtual 140, 3) := by decide +kernel
theorem dX5_delete_5 : decode cX5_delete 5 = .ok (.astore 4, 2) := by decide +kernel
theorem dX5_delete_7 : decode cX5_delete 7 = .ok (.aload 4, 2) := by decide +kernel
theorem dX5_delete_9 : decode cX5_delete 9 = .ok (.iload_n 2, 1) := by decide +kernel
theorem dX5_delete_10 : decode cX5_delete 10 = .ok (.invokestatic 177, 3) := by decide +kernel
theorem dX5_delete_13 : decode cX5_delete 13 = .ok (.astore 5, 2) := by decide +kernel
theorem dX5_delete_15 : decode cX5_delete 15 = .ok (.iload_n 3, 1) := by decide +kernel
theorem dX5_delete_16 : decode cX5_delete 16 = .ok (.ifCond .eq 43, 3) := by decide +kernel
theorem dX5_delete_19 : decode cX5_delete 19 = .ok (.aload 5, 2) := by decide +kernel
theorem dX5_delete_21 : decode cX5_delete 21 = .ok (.getfield 181, 3) := by decide +kernel
theorem dX5_delete_24 : decode cX5_delete 24 = .ok (.ifCond .eq 16, 3) := by decide +kernel
theorem dX5_delete_27 : decode cX5_delete 27 = .ok (.aload_n 0, 1) := by decide +kernel
theorem dX5_delete_28 : decode cX5_delete 28 = .ok (.bipush 10, 2) := by decide +kernel
theorem dX5_delete_30 : decode cX5_delete 30 = .ok (.iload_n 1, 1) := by decide +kernel
theorem dX5_delete_31 : decode cX5_delete 31 = .ok (.imul, 1) := by decide +kernel
theorem dX5_delete_32 : decode cX5_delete 32 = .ok (.iload_n 2, 1) := by decide +kernel
theorem dX5_delete_33 : decode cX5_delete 33 = .ok (.iadd, 1) := by decide +kernel
theorem dX5_delete_34 : decode cX5_delete 34 = .ok (.invokevirtual 184, 3) := by decide +kernel
theorem dX5_delete_37 : decode cX5_delete 37 = .ok (.ifCond .eq 13, 3) := by decide +kernel
theorem dX5_delete_40 : decode cX5_delete 40 = .ok (.new 91, 3) := by decide +kernel
theorem dX5_delete_43 : decode cX5_delete 43 = .ok (.dup, 1) := by decide +kernel
theorem dX5_delete_44 : decode cX5_delete 44 = .ok (.ldc 187, 2) := by decide +kernel
theorem dX5_delete_46 : decode cX5_delete 46 = .ok (.invokespecial 95, 3) := by decide +kernel
theorem dX5_delete_49 : decode cX5_delete 49 = .ok (.athrow, 1) := by decide +kernel
theorem dX5_delete_50 : decode cX5_delete 50 = .ok (.aload 5, 2) := by decide +kernel
theorem dX5_delete_52 : decode cX5_delete 52 = .ok (.iconst 2, 1) := by decide +kernel
theorem dX5_delete_53 : decode cX5_delete 53 = .ok (.putfield 181, 3) := by decide +kernel
theorem dX5_delete_56 : decode cX5_delete 56 = .ok (.goto 27, 3) := by decide +kernel
theorem dX5_delete_59 : decode cX5_delete 59 = .ok (.aload 5, 2) := by decide +kernel
theorem dX5_delete_61 : decode cX5_delete 61 = .ok (.getfield 181, 3) := by decide +kernel
theorem dX5_delete_64 : decode cX5_delete 64 = .ok (.ifCond .eq 13, 3) := by decide +kernel
theorem dX5_delete_67 : decode cX5_delete 67 = .ok (.new 91, 3) := by decide +kernel
theorem dX5_delete_70 : decode cX5_delete 70 = .ok (.dup, 1) := by decide +kernel
theorem dX5_delete_71 : decode cX5_delete 71 = .ok (.ldc 189, 2) := by decide +kernel
theorem dX5_delete_73 : decode cX5_delete 73 = .ok (.invokespecial 95, 3) := by decide +kernel
theorem dX5_delete_76 : decode cX5_delete 76 = .ok (.athrow, 1) := by decide +kernel
theorem dX5_delete_77 : decode cX5_delete 77 = .ok (.aload 5, 2) := by decide +kernel
theorem dX5_delete_79 : decode cX5_delete 79 = .ok (.iconst 1, 1) := by decide +kernel
theorem dX5_delete_80 : decode cX5_delete 80 = .ok (.putfield 181, 3) := by decide +kernel
theorem dX5_delete_83 : decode cX5_delete 83 = .ok (.aload 4, 2) := by decide +kernel
theorem dX5_delete_85 : decode cX5_delete 85 = .ok (.invokevirtual 191, 3) := by decide +kernel
theorem dX5_delete_88 : decode cX5_delete 88 = .ok (.ireturn, 1) := by decide +kernel
theorem dX5_versions_0 : decode cX5_versions 0 = .ok (.aload_n 0, 1) := by decide +kernel
theorem dX5_versions_1 : decode cX5_versions 1 = .ok (.iload_n 1, 1) := by decide +kernel
theorem dX5_versions_2 : decode cX5_versions 2 = .ok (.invokevirtual 140, 3) := by decide +kernel
theorem dX5_versions_5 : decode cX5_versions 5 = .ok (.getfield 155, 3) := by decide +kernel
theorem dX5_versions_8 : decode cX5_versions 8 = .ok (.invokevirtual 84, 3) := by decide +kernel
theorem dX5_versions_11 : decode cX5_versions 11 = .ok (.ireturn, 1) := by decide +kernel
theorem dX5_number_0 : decode cX5_number 0 = .ok (.aload_n 0, 1) := by decide +kernel
theorem dX5_number_1 : decode cX5_number 1 = .ok (.iload_n 1, 1) := by decide +kernel
theorem dX5_number_2 : decode cX5_number 2 = .ok (.iload_n 2, 1) := by decide +kernel
theorem dX5_number_3 : decode cX5_number 3 = .ok (.invokevirtual 194, 3) := by decide +kernel
theorem dX5_number_6 : decode cX5_number 6 = .ok (.getfield 198, 3) := by decide +kernel
theorem dX5_number_9 : decode cX5_number 9 = .ok (.ireturn, 1) := by decide +kernel
theorem dX5_length_0 : decode cX5_length 0 = .ok (.aload_n 0, 1) := by decide +kernel
theorem dX5_length_1 : decode cX5_length 1 = .ok (.iload_n 1, 1) := by decide +kernel
theorem dX5_length_2 : decode cX5_length 2 = .ok (.iload_n 2, 1) := by decide +kernel
theorem dX5_length_3 : decode cX5_length 3 = .ok (.invokevirtual 194, 3) := by decide +kernel
theorem dX5_length_6 : decode cX5_length 6 = .ok (.getfield 74, 3) := by decide +kernel
theorem dX5_length_9 : decode cX5_length 9 = .ok (.invokevirtual 77, 3) := by decide +kernel
theorem dX5_length_12 : decode cX5_length 12 = .ok (.ireturn, 1) := by decide +kernel
theorem dX5_canRead_0 : decode cX5_canRead 0 = .ok (.aload_n 0, 1) := by decide +kernel
theorem dX5_canRead_1 : decode cX5_canRead 1 = .ok (.iload_n 1, 1) := by decide +kernel
theorem dX5_canRead_2 : decode cX5_canRead 2 = .ok (.iload_n 3, 1) := by decide +kernel
theorem dX5_canRead_3 : decode cX5_canRead 3 = .ok (.invokevirtual 201, 3) := by decide +kernel
theorem dX5_canRead_6 : decode cX5_canRead 6 = .ok (.aload_n 0, 1) := by decide +kernel
theorem dX5_canRead_7 : decode cX5_canRead 7 = .ok (.iload_n 1, 1) := by decide +kernel
theorem dX5_canRead_8 : decode cX5_canRead 8 = .ok (.iload_n 2, 1) := by decide +kernel
theorem dX5_canRead_9 : decode cX5_canRead 9 = .ok (.invokevirtual 194, 3) := by decide +kernel
theorem dX5_canRead_12 : decode cX5_canRead 12 = .ok (.astore 5, 2) := by decide +kernel
theorem dX5_canRead_14 : decode cX5_canRead 14 = .ok (.aload_n 0, 1) := by decide +kernel
theorem dX5_canRead_15 : decode cX5_canRead 15 = .ok (.iload_n 3, 1) := by decide +kernel
theorem dX5_canRead_16 : decode cX5_canRead 16 = .ok (.iload 4, 2) := by decide +kernel
theorem dX5_canRead_18 : decode cX5_canRead 18 = .ok (.invokevirtual 194, 3) := by decide +kernel
theorem dX5_canRead_21 : decode cX5_canRead 21 = .ok (.astore 6, 2) := by decide +kernel
theorem dX5_canRead_23 : decode cX5_canRead 23 = .ok (.aload 5, 2) := by decide +kernel
theorem dX5_canRead_25 : decode cX5_canRead 25 = .ok (.aload 6, 2) := by decide +kernel
theorem dX5_canRead_27 : decode cX5_canRead 27 = .ok (.iconst 0, 1) := by decide +kernel
theorem dX5_canRead_28 : decode cX5_canRead 28 = .ok (.invokestatic 205, 3) := by decide +kernel
theorem dX5_canRead_31 : decode cX5_canRead 31 = .ok (.ireturn, 1) := by decide +kernel
theorem dX5_readsAll_0 : decode cX5_readsAll 0 = .ok (.aload_n 0, 1) := by decide +kernel
theorem dX5_readsAll_1 : decode cX5_readsAll 1 = .ok (.iload_n 1, 1) := by decide +kernel
theorem dX5_readsAll_2 : decode cX5_readsAll 2 = .ok (.iload_n 3, 1) := by decide +kernel
theorem dX5_readsAll_3 : decode cX5_readsAll 3 = .ok (.invokevirtual 201, 3) := by decide +kernel
theorem dX5_readsAll_6 : decode cX5_readsAll 6 = .ok (.aload_n 0, 1) := by decide +kernel
theorem dX5_readsAll_7 : decode cX5_readsAll 7 = .ok (.iload_n 1, 1) := by decide +kernel
theorem dX5_readsAll_8 : decode cX5_readsAll 8 = .ok (.iload_n 2, 1) := by decide +kernel
theorem dX5_readsAll_9 : decode cX5_readsAll 9 = .ok (.invokevirtual 194, 3) := by decide +kernel
theorem dX5_readsAll_12 : decode cX5_readsAll 12 = .ok (.astore 5, 2) := by decide +kernel
theorem dX5_readsAll_14 : decode cX5_readsAll 14 = .ok (.aload_n 0, 1) := by decide +kernel
theorem dX5_readsAll_15 : decode cX5_readsAll 15 = .ok (.iload_n 3, 1) := by decide +kernel
theorem dX5_readsAll_16 : decode cX5_readsAll 16 = .ok (.iload 4, 2) := by decide +kernel
theorem dX5_readsAll_18 : decode cX5_readsAll 18 = .ok (.invokevirtual 194, 3) := by decide +kernel
theorem dX5_readsAll_21 : decode cX5_readsAll 21 = .ok (.astore 6, 2) := by decide +kernel
theorem dX5_readsAll_23 : decode cX5_readsAll 23 = .ok (.aload 6, 2) := by decide +kernel
theorem dX5_readsAll_25 : decode cX5_readsAll 25 = .ok (.getfield 74, 3) := by decide +kernel
theorem dX5_readsAll_28 : decode cX5_readsAll 28 = .ok (.invokestatic 209, 3) := by decide +kernel
theorem dX5_readsAll_31 : decode cX5_readsAll 31 = .ok (.istore 7, 2) := by decide +kernel
theorem dX5_readsAll_33 : decode cX5_readsAll 33 = .ok (.iload 7, 2) := by decide +kernel
theorem dX5_readsAll_35 : decode cX5_readsAll 35 = .ok (.sipush 300, 3) := by decide +kernel
theorem dX5_readsAll_38 : decode cX5_readsAll 38 = .ok (.if_icmp .le 13, 3) := by decide +kernel
theorem dX5_readsAll_41 : decode cX5_readsAll 41 = .ok (.new 91, 3) := by decide +kernel
theorem dX5_readsAll_44 : decode cX5_readsAll 44 = .ok (.dup, 1) := by decide +kernel
theorem dX5_readsAll_45 : decode cX5_readsAll 45 = .ok (.ldc 213, 2) := by decide +kernel
theorem dX5_readsAll_47 : decode cX5_readsAll 47 = .ok (.invokespecial 95, 3) := by decide +kernel
theorem dX5_readsAll_50 : decode cX5_readsAll 50 = .ok (.athrow, 1) := by decide +kernel
theorem dX5_readsAll_51 : decode cX5_readsAll 51 = .ok (.iconst 0, 1) := by decide +kernel
theorem dX5_readsAll_52 : decode cX5_readsAll 52 = .ok (.istore 8, 2) := by decide +kernel
theorem dX5_readsAll_54 : decode cX5_readsAll 54 = .ok (.iload 8, 2) := by decide +kernel
theorem dX5_readsAll_56 : decode cX5_readsAll 56 = .ok (.iload 7, 2) := by decide +kernel
theorem dX5_readsAll_58 : decode cX5_readsAll 58 = .ok (.if_icmp .ge 52, 3) := by decide +kernel
theorem dX5_readsAll_61 : decode cX5_readsAll 61 = .ok (.aload_n 0, 1) := by decide +kernel
theorem dX5_readsAll_62 : decode cX5_readsAll 62 = .ok (.getfield 43, 3) := by decide +kernel
theorem dX5_readsAll_65 : decode cX5_readsAll 65 = .ok (.aload 6, 2) := by decide +kernel
theorem dX5_readsAll_67 : decode cX5_readsAll 67 = .ok (.getfield 74, 3) := by decide +kernel
theorem dX5_readsAll_70 : decode cX5_readsAll 70 = .ok (.iload 8, 2) := by decide +kernel
theorem dX5_readsAll_72 : decode cX5_readsAll 72 = .ok (.invokestatic 215, 3) := by decide +kernel
theorem dX5_readsAll_75 : decode cX5_readsAll 75 = .ok (.aload_n 0, 1) := by decide +kernel
theorem dX5_readsAll_76 : decode cX5_readsAll 76 = .ok (.getfield 40, 3) := by decide +kernel
theorem dX5_readsAll_79 : decode cX5_readsAll 79 = .ok (.invokevirtual 219, 3) := by decide +kernel
theorem dX5_readsAll_82 : decode cX5_readsAll 82 = .ok (.aload 5, 2) := by decide +kernel
theorem dX5_readsAll_84 : decode cX5_readsAll 84 = .ok (.aload 6, 2) := by decide +kernel
theorem dX5_readsAll_86 : decode cX5_readsAll 86 = .ok (.aload_n 0, 1) := by decide +kernel
theorem dX5_readsAll_87 : decode cX5_readsAll 87 = .ok (.getfield 43, 3) := by decide +kernel
theorem dX5_readsAll_90 : decode cX5_readsAll 90 = .ok (.iconst 0, 1) := by decide +kernel
theorem dX5_readsAll_91 : decode cX5_readsAll 91 = .ok (.aload_n 0, 1) := by decide +kernel
theorem dX5_readsAll_92 : decode cX5_readsAll 92 = .ok (.getfield 40, 3) := by decide +kernel
theorem dX5_readsAll_95 : decode cX5_readsAll 95 = .ok (.iconst 0, 1) := by decide +kernel
theorem dX5_readsAll_96 : decode cX5_readsAll 96 = .ok (.invokestatic 220, 3) := by decide +kernel
theorem dX5_readsAll_99 : decode cX5_readsAll 99 = .ok (.ifCond .ne 5, 3) := by decide +kernel
theorem dX5_readsAll_102 : decode cX5_readsAll 102 = .ok (.iconst 0, 1) := by decide +kernel
theorem dX5_readsAll_103 : decode cX5_readsAll 103 = .ok (.ireturn, 1) := by decide +kernel
theorem dX5_readsAll_104 : decode cX5_readsAll 104 = .ok (.iinc 8 1, 3) := by decide +kernel
theorem dX5_readsAll_107 : decode cX5_readsAll 107 = .ok (.goto (-53), 3) := by decide +kernel
theorem dX5_readsAll_110 : decode cX5_readsAll 110 = .ok (.iconst 1, 1) := by decide +kernel
theorem dX5_readsAll_111 : decode cX5_readsAll 111 = .ok (.ireturn, 1) := by decide +kernel
theorem dX5_value_0 : decode cX5_value 0 = .ok (.aload_n 0, 1) := by decide +kernel
theorem dX5_value_1 : decode cX5_value 1 = .ok (.getfield 36, 3) := by decide +kernel
theorem dX5_value_4 : decode cX5_value 4 = .ok (.invokevirtual 77, 3) := by decide +kernel
theorem dX5_value_7 : decode cX5_value 7 = .ok (.bipush 20, 2) := by decide +kernel
theorem dX5_value_9 : decode cX5_value 9 = .ok (.if_icmp .lt 13, 3) := by decide +kernel
theorem dX5_value_12 : decode cX5_value 12 = .ok (.new 91, 3) := by decide +kernel
theorem dX5_value_15 : decode cX5_value 15 = .ok (.dup, 1) := by decide +kernel
theorem dX5_value_16 : decode cX5_value 16 = .ok (.ldc 224, 2) := by decide +kernel
theorem dX5_value_18 : decode cX5_value 18 = .ok (.invokespecial 95, 3) := by decide +kernel
theorem dX5_value_21 : decode cX5_value 21 = .ok (.athrow, 1) := by decide +kernel
theorem dX5_value_22 : decode cX5_value 22 = .ok (.aload_n 0, 1) := by decide +kernel
theorem dX5_value_23 : decode cX5_value 23 = .ok (.getfield 36, 3) := by decide +kernel
theorem dX5_value_26 : decode cX5_value 26 = .ok (.iload_n 1, 1) := by decide +kernel
theorem dX5_value_27 : decode cX5_value 27 = .ok (.invokevirtual 226, 3) := by decide +kernel
theorem dX5_value_30 : decode cX5_value 30 = .ok (.aload_n 0, 1) := by decide +kernel
theorem dX5_value_31 : decode cX5_value 31 = .ok (.getfield 36, 3) := by decide +kernel
theorem dX5_value_34 : decode cX5_value 34 = .ok (.invokevirtual 77, 3) := by decide +kernel
theorem dX5_value_37 : decode cX5_value 37 = .ok (.ireturn, 1) := by decide +kernel
theorem dX5_clear_0 : decode cX5_clear 0 = .ok (.aload_n 0, 1) := by decide +kernel
theorem dX5_clear_1 : decode cX5_clear 1 = .ok (.getfield 36, 3) := by decide +kernel
theorem dX5_clear_4 : decode cX5_clear 4 = .ok (.invokevirtual 77, 3) := by decide +kernel
theorem dX5_clear_7 : decode cX5_clear 7 = .ok (.istore_n 1, 1) := by decide +kernel
theorem dX5_clear_8 : decode cX5_clear 8 = .ok (.aload_n 0, 1) := by decide +kernel
theorem dX5_clear_9 : decode cX5_clear 9 = .ok (.getfield 36, 3) := by decide +kernel
theorem dX5_clear_12 : decode cX5_clear 12 = .ok (.invokevirtual 219, 3) := by decide +kernel
theorem dX5_clear_15 : decode cX5_clear 15 = .ok (.iload_n 1, 1) := by decide +kernel
theorem dX5_clear_16 : decode cX5_clear 16 = .ok (.ireturn, 1) := by decide +kernel
theorem dX5_isRecord_0 : decode cX5_isRecord 0 = .ok (.aload_n 0, 1) := by decide +kernel
theorem dX5_isRecord_1 : decode cX5_isRecord 1 = .ok (.aload_n 0, 1) := by decide +kernel
theorem dX5_isRecord_2 : decode cX5_isRecord 2 = .ok (.iload_n 1, 1) := by decide +kernel
theorem dX5_isRecord_3 : decode cX5_isRecord 3 = .ok (.iload_n 2, 1) := by decide +kernel
theorem dX5_isRecord_4 : decode cX5_isRecord 4 = .ok (.invokevirtual 194, 3) := by decide +kernel
theorem dX5_isRecord_7 : decode cX5_isRecord 7 = .ok (.invokevirtual 229, 3) := by decide +kernel
theorem dX5_isRecord_10 : decode cX5_isRecord 10 = .ok (.ireturn, 1) := by decide +kernel
theorem dX5_read_0 : decode cX5_read 0 = .ok (.aload_n 0, 1) := by decide +kernel
theorem dX5_read_1 : decode cX5_read 1 = .ok (.iload_n 1, 1) := by decide +kernel
theorem dX5_read_2 : decode cX5_read 2 = .ok (.iload_n 3, 1) := by decide +kernel
theorem dX5_read_3 : decode cX5_read 3 = .ok (.invokevirtual 201, 3) := by decide +kernel
theorem dX5_read_6 : decode cX5_read 6 = .ok (.aload_n 0, 1) := by decide +kernel
theorem dX5_read_7 : decode cX5_read 7 = .ok (.iload_n 1, 1) := by decide +kernel
theorem dX5_read_8 : decode cX5_read 8 = .ok (.iload_n 2, 1) := by decide +kernel
theorem dX5_read_9 : decode cX5_read 9 = .ok (.invokevirtual 194, 3) := by decide +kernel
theorem dX5_read_12 : decode cX5_read 12 = .ok (.astore 5, 2) := by decide +kernel
theorem dX5_read_14 : decode cX5_read 14 = .ok (.aload_n 0, 1) := by decide +kernel
theorem dX5_read_15 : decode cX5_read 15 = .ok (.iload_n 3, 1) := by decide +kernel
theorem dX5_read_16 : decode cX5_read 16 = .ok (.iload 4, 2) := by decide +kernel
theorem dX5_read_18 : decode cX5_read 18 = .ok (.invokevirtual 194, 3) := by decide +kernel
theorem dX5_read_21 : decode cX5_read 21 = .ok (.astore 6, 2) := by decide +kernel
theorem dX5_read_23 : decode cX5_read 23 = .ok (.aload_n 0, 1) := by decide +kernel
theorem dX5_read_24 : decode cX5_read 24 = .ok (.getfield 40, 3) := by decide +kernel
theorem dX5_read_27 : decode cX5_read 27 = .ok (.invokevirtual 219, 3) := by decide +kernel
theorem dX5_read_30 : decode cX5_read 30 = .ok (.aload_n 0, 1) := by decide +kernel
theorem dX5_read_31 : decode cX5_read 31 = .ok (.aload 6, 2) := by decide +kernel
theorem dX5_read_33 : decode cX5_read 33 = .ok (.invokevirtual 229, 3) := by decide +kernel
theorem dX5_read_36 : decode cX5_read 36 = .ok (.ifCond .eq 23, 3) := by decide +kernel
theorem dX5_read_39 : decode cX5_read 39 = .ok (.aload 5, 2) := by decide +kernel
theorem dX5_read_41 : decode cX5_read 41 = .ok (.aload 6, 2) := by decide +kernel
theorem dX5_read_43 : decode cX5_read 43 = .ok (.aload_n 0, 1) := by decide +kernel
theorem dX5_read_44 : decode cX5_read 44 = .ok (.getfield 36, 3) := by decide +kernel
theorem dX5_read_47 : decode cX5_read 47 = .ok (.iconst 0, 1) := by decide +kernel
theorem dX5_read_48 : decode cX5_read 48 = .ok (.aload_n 0, 1) := by decide +kernel
theorem dX5_read_49 : decode cX5_read 49 = .ok (.getfield 40, 3) := by decide +kernel
theorem dX5_read_52 : decode cX5_read 52 = .ok (.iconst 0, 1) := by decide +kernel
theorem dX5_read_53 : decode cX5_read 53 = .ok (.invokestatic 220, 3) := by decide +kernel
theorem dX5_read_56 : decode cX5_read 56 = .ok (.ifCond .ne 13, 3) := by decide +kernel
theorem dX5_read_59 : decode cX5_read 59 = .ok (.new 91, 3) := by decide +kernel
theorem dX5_read_62 : decode cX5_read 62 = .ok (.dup, 1) := by decide +kernel
theorem dX5_read_63 : decode cX5_read 63 = .ok (.ldc 232, 2) := by decide +kernel
theorem dX5_read_65 : decode cX5_read 65 = .ok (.invokespecial 95, 3) := by decide +kernel
theorem dX5_read_68 : decode cX5_read 68 = .ok (.athrow, 1) := by decide +kernel
theorem dX5_read_69 : decode cX5_read 69 = .ok (.aload_n 0, 1) := by decide +kernel
theorem dX5_read_70 : decode cX5_read 70 = .ok (.getfield 36, 3) := by decide +kernel
theorem dX5_read_73 : decode cX5_read 73 = .ok (.astore 7, 2) := by decide +kernel
theorem dX5_read_75 : decode cX5_read 75 = .ok (.aload_n 0, 1) := by decide +kernel
theorem dX5_read_76 : decode cX5_read 76 = .ok (.aload_n 0, 1) := by decide +kernel
theorem dX5_read_77 : decode cX5_read 77 = .ok (.getfield 40, 3) := by decide +kernel
theorem dX5_read_80 : decode cX5_read 80 = .ok (.putfield 36, 3) := by decide +kernel
theorem dX5_read_83 : decode cX5_read 83 = .ok (.aload_n 0, 1) := by decide +kernel
theorem dX5_read_84 : decode cX5_read 84 = .ok (.aload 7, 2) := by decide +kernel
theorem dX5_read_86 : decode cX5_read 86 = .ok (.putfield 40, 3) := by decide +kernel
theorem dX5_read_89 : decode cX5_read 89 = .ok (.aload_n 0, 1) := by decide +kernel
theorem dX5_read_90 : decode cX5_read 90 = .ok (.getfield 36, 3) := by decide +kernel
theorem dX5_read_93 : decode cX5_read 93 = .ok (.invokevirtual 77, 3) := by decide +kernel
theorem dX5_read_96 : decode cX5_read 96 = .ok (.ireturn, 1) := by decide +kernel
theorem dX5_valueAt_0 : decode cX5_valueAt 0 = .ok (.iload_n 1, 1) := by decide +kernel
theorem dX5_valueAt_1 : decode cX5_valueAt 1 = .ok (.ifCond .lt 14, 3) := by decide +kernel
theorem dX5_valueAt_4 : decode cX5_valueAt 4 = .ok (.iload_n 1, 1) := by decide +kernel
theorem dX5_valueAt_5 : decode cX5_valueAt 5 = .ok (.aload_n 0, 1) := by decide +kernel
theorem dX5_valueAt_6 : decode cX5_valueAt 6 = .ok (.getfield 36, 3) := by decide +kernel
theorem dX5_valueAt_9 : decode cX5_valueAt 9 = .ok (.invokevirtual 77, 3) := by decide +kernel
theorem dX5_valueAt_12 : decode cX5_valueAt 12 = .ok (.if_icmp .lt 13, 3) := by decide +kernel
theorem dX5_valueAt_15 : decode cX5_valueAt 15 = .ok (.new 69, 3) := by decide +kernel
theorem dX5_valueAt_18 : decode cX5_valueAt 18 = .ok (.dup, 1) := by decide +kernel
theorem dX5_valueAt_19 : decode cX5_valueAt 19 = .ok (.ldc 234, 2) := by decide +kernel
theorem dX5_valueAt_21 : decode cX5_valueAt 21 = .ok (.invokespecial 73, 3) := by decide +kernel
theorem dX5_valueAt_24 : decode cX5_valueAt 24 = .ok (.athrow, 1) := by decide +kernel
theorem dX5_valueAt_25 : decode cX5_valueAt 25 = .ok (.aload_n 0, 1) := by decide +kernel
theorem dX5_valueAt_26 : decode cX5_valueAt 26 = .ok (.getfield 36, 3) := by decide +kernel
theorem dX5_valueAt_29 : decode cX5_valueAt 29 = .ok (.iload_n 1, 1) := by decide +kernel
theorem dX5_valueAt_30 : decode cX5_valueAt 30 = .ok (.invokevirtual 236, 3) := by decide +kernel
theorem dX5_valueAt_33 : decode cX5_valueAt 33 = .ok (.ireturn, 1) := by decide +kernel
theorem dX5_demandedSubject_0 : decode cX5_demandedSubject 0 = .ok (.iload_n 1, 1) := by decide +kernel
theorem dX5_demandedSubject_1 : decode cX5_demandedSubject 1 = .ok (.ifCond .lt 14, 3) := by decide +kernel
theorem dX5_demandedSubject_4 : decode cX5_demandedSubject 4 = .ok (.iload_n 1, 1) := by decide +kernel
theorem dX5_demandedSubject_5 : decode cX5_demandedSubject 5 = .ok (.aload_n 0, 1) := by decide +kernel
theorem dX5_demandedSubject_6 : decode cX5_demandedSubject 6 = .ok (.getfield 10, 3) := by decide +kernel
theorem dX5_demandedSubject_9 : decode cX5_demandedSubject 9 = .ok (.invokevirtual 84, 3) := by decide +kernel
theorem dX5_demandedSubject_12 : decode cX5_demandedSubject 12 = .ok (.if_icmp .lt 13, 3) := by decide +kernel
theorem dX5_demandedSubject_15 : decode cX5_demandedSubject 15 = .ok (.new 53, 3) := by decide +kernel
theorem dX5_demandedSubject_18 : decode cX5_demandedSubject 18 = .ok (.dup, 1) := by decide +kernel
theorem dX5_demandedSubject_19 : decode cX5_demandedSubject 19 = .ok (.ldc 240, 2) := by decide +kernel
theorem dX5_demandedSubject_21 : decode cX5_demandedSubject 21 = .ok (.invokespecial 57, 3) := by decide +kernel
theorem dX5_demandedSubject_24 : decode cX5_demandedSubject 24 = .ok (.athrow, 1) := by decide +kernel
theorem dX5_demandedSubject_25 : decode cX5_demandedSubject 25 = .ok (.aload_n 0, 1) := by decide +kernel
theorem dX5_demandedSubject_26 : decode cX5_demandedSubject 26 = .ok (.getfield 10, 3) := by decide +kernel
theorem dX5_demandedSubject_29 : decode cX5_demandedSubject 29 = .ok (.iload_n 1, 1) := by decide +kernel
theorem dX5_demandedSubject_30 : decode cX5_demandedSubject 30 = .ok (.invokevirtual 242, 3) := by decide +kernel
theorem dX5_demandedSubject_33 : decode cX5_demandedSubject 33 = .ok (.checkcast 16, 3) := by decide +kernel
theorem dX5_demandedSubject_36 : decode cX5_demandedSubject 36 = .ok (.areturn, 1) := by decide +kernel
theorem dX5_demandSubjects_0 : decode cX5_demandSubjects 0 = .ok (.aload_n 0, 1) := by decide +kernel
theorem dX5_demandSubjects_1 : decode cX5_demandSubjects 1 = .ok (.iload_n 1, 1) := by decide +kernel
theorem dX5_demandSubjects_2 : decode cX5_demandSubjects 2 = .ok (.invokevirtual 140, 3) := by decide +kernel
theorem dX5_demandSubjects_5 : decode cX5_demandSubjects 5 = .ok (.pop, 1) := by decide +kernel
theorem dX5_demandSubjects_6 : decode cX5_demandSubjects 6 = .ok (.aload_n 0, 1) := by decide +kernel
theorem dX5_demandSubjects_7 : decode cX5_demandSubjects 7 = .ok (.iload_n 2, 1) := by decide +kernel
theorem dX5_demandSubjects_8 : decode cX5_demandSubjects 8 = .ok (.invokevirtual 140, 3) := by decide +kernel
theorem dX5_demandSubjects_11 : decode cX5_demandSubjects 11 = .ok (.pop, 1) := by decide +kernel
theorem dX5_demandSubjects_12 : decode cX5_demandSubjects 12 = .ok (.return_, 1) := by decide +kernel
theorem dX5_demandedVersion_0 : decode cX5_demandedVersion 0 = .ok (.aload_n 0, 1) := by decide +kernel
theorem dX5_demandedVersion_1 : decode cX5_demandedVersion 1 = .ok (.iload_n 1, 1) := by decide +kernel
theorem dX5_demandedVersion_2 : decode cX5_demandedVersion 2 = .ok (.invokevirtual 246, 3) := by decide +kernel
theorem dX5_demandedVersion_5 : decode cX5_demandedVersion 5 = .ok (.astore_n 2, 1) := by decide +kernel
theorem dX5_demandedVersion_6 : decode cX5_demandedVersion 6 = .ok (.aload_n 2, 1) := by decide +kernel
theorem dX5_demandedVersion_7 : decode cX5_demandedVersion 7 = .ok (.ifnonnull 13, 3) := by decide +kernel
theorem dX5_demandedVersion_10 : decode cX5_demandedVersion 10 = .ok (.new 69, 3) := by decide +kernel
theorem dX5_demandedVersion_13 : decode cX5_demandedVersion 13 = .ok (.dup, 1) := by decide +kernel
theorem dX5_demandedVersion_14 : decode cX5_demandedVersion 14 = .ok (.ldc 250, 2) := by decide +kernel
theorem dX5_demandedVersion_16 : decode cX5_demandedVersion 16 = .ok (.invokespecial 73, 3) := by decide +kernel
theorem dX5_demandedVersion_19 : decode cX5_demandedVersion 19 = .ok (.athrow, 1) := by decide +kernel
theorem dX5_demandedVersion_20 : decode cX5_demandedVersion 20 = .ok (.aload_n 2, 1) := by decide +kernel
theorem dX5_demandedVersion_21 : decode cX5_demandedVersion 21 = .ok (.areturn, 1) := by decide +kernel
theorem dX5_demandedSchema_0 : decode cX5_demandedSchema 0 = .ok (.aload_n 0, 1) := by decide +kernel
theorem dX5_demandedSchema_1 : decode cX5_demandedSchema 1 = .ok (.iload_n 1, 1) := by decide +kernel
theorem dX5_demandedSchema_2 : decode cX5_demandedSchema 2 = .ok (.invokevirtual 140, 3) := by decide +kernel
theorem dX5_demandedSchema_5 : decode cX5_demandedSchema 5 = .ok (.iload_n 2, 1) := by decide +kernel
theorem dX5_demandedSchema_6 : decode cX5_demandedSchema 6 = .ok (.invokestatic 177, 3) := by decide +kernel
theorem dX5_demandedSchema_9 : decode cX5_demandedSchema 9 = .ok (.getfield 252, 3) := by decide +kernel
theorem dX5_demandedSchema_12 : decode cX5_demandedSchema 12 = .ok (.areturn, 1) := by decide +kernel
theorem dX5_demandDraft_0 : decode cX5_demandDraft 0 = .ok (.aload_n 0, 1) := by decide +kernel
theorem dX5_demandDraft_1 : decode cX5_demandDraft 1 = .ok (.getfield 29, 3) := by decide +kernel
theorem dX5_demandDraft_4 : decode cX5_demandDraft 4 = .ok (.getfield 81, 3) := by decide +kernel
theorem dX5_demandDraft_7 : decode cX5_demandDraft 7 = .ok (.invokevirtual 255, 3) := by decide +kernel
theorem dX5_demandDraft_10 : decode cX5_demandDraft 10 = .ok (.ifCond .eq 14, 3) := by decide +kernel
theorem dX5_demandDraft_13 : decode cX5_demandDraft 13 = .ok (.new 91, 3) := by decide +kernel
theorem dX5_demandDraft_16 : decode cX5_demandDraft 16 = .ok (.dup, 1) := by decide +kernel
theorem dX5_demandDraft_17 : decode cX5_demandDraft 17 = .ok (.ldc_w 259, 3) := by decide +kernel
theorem dX5_demandDraft_20 : decode cX5_demandDraft 20 = .ok (.invokespecial 95, 3) := by decide +kernel
theorem dX5_demandDraft_23 : decode cX5_demandDraft 23 = .ok (.athrow, 1) := by decide +kernel
theorem dX5_demandDraft_24 : decode cX5_demandDraft 24 = .ok (.return_, 1) := by decide +kernel
theorem dX5_isName_0 : decode cX5_isName 0 = .ok (.iload_n 0, 1) := by decide +kernel
theorem dX5_isName_1 : decode cX5_isName 1 = .ok (.ifCond .lt 13, 3) := by decide +kernel
theorem dX5_isName_4 : decode cX5_isName 4 = .ok (.iload_n 0, 1) := by decide +kernel
theorem dX5_isName_5 : decode cX5_isName 5 = .ok (.bipush 10, 2) := by decide +kernel
theorem dX5_isName_7 : decode cX5_isName 7 = .ok (.if_icmp .ge 7, 3) := by decide +kernel
theorem dX5_isName_10 : decode cX5_isName 10 = .ok (.iconst 1, 1) := by decide +kernel
theorem dX5_isName_11 : decode cX5_isName 11 = .ok (.goto 4, 3) := by decide +kernel
theorem dX5_isName_14 : decode cX5_isName 14 = .ok (.iconst 0, 1) := by decide +kernel
theorem dX5_isName_15 : decode cX5_isName 15 = .ok (.ireturn, 1) := by decide +kernel
theorem dX5_isType_0 : decode cX5_isType 0 = .ok (.iload_n 0, 1) := by decide +kernel
theorem dX5_isType_1 : decode cX5_isType 1 = .ok (.ifCond .lt 12, 3) := by decide +kernel
theorem dX5_isType_4 : decode cX5_isType 4 = .ok (.iload_n 0, 1) := by decide +kernel
theorem dX5_isType_5 : decode cX5_isType 5 = .ok (.iconst 4, 1) := by decide +kernel
theorem dX5_isType_6 : decode cX5_isType 6 = .ok (.if_icmp .gt 7, 3) := by decide +kernel
theorem dX5_isType_9 : decode cX5_isType 9 = .ok (.iconst 1, 1) := by decide +kernel
theorem dX5_isType_10 : decode cX5_isType 10 = .ok (.goto 4, 3) := by decide +kernel
theorem dX5_isType_13 : decode cX5_isType 13 = .ok (.iconst 0, 1) := by decide +kernel
theorem dX5_isType_14 : decode cX5_isType 14 = .ok (.ireturn, 1) := by decide +kernel
theorem dX5_isSize_0 : decode cX5_isSize 0 = .ok (.iload_n 0, 1) := by decide +kernel
theorem dX5_isSize_1 : decode cX5_isSize 1 = .ok (.iconst 1, 1) := by decide +kernel
theorem dX5_isSize_2 : decode cX5_isSize 2 = .ok (.if_icmp .lt 12, 3) := by decide +kernel
theorem dX5_isSize_5 : decode cX5_isSize 5 = .ok (.iload_n 0, 1) := by decide +kernel
theorem dX5_isSize_6 : decode cX5_isSize 6 = .ok (.iconst 4, 1) := by decide +kernel
theorem dX5_isSize_7 : decode cX5_isSize 7 = .ok (.if_icmp .gt 7, 3) := by decide +kernel
theorem dX5_isSize_10 : decode cX5_isSize 10 = .ok (.iconst 1, 1) := by decide +kernel
theorem dX5_isSize_11 : decode cX5_isSize 11 = .ok (.goto 4, 3) := by decide +kernel
theorem dX5_isSize_14 : decode cX5_isSize 14 = .ok (.iconst 0, 1) := by decide +kernel
theorem dX5_isSize_15 : decode cX5_isSize 15 = .ok (.ireturn, 1) := by decide +kernel
theorem dX5_sizeOf_0 : decode cX5_sizeOf 0 = .ok (.iload_n 0, 1) := by decide +kernel
theorem dX5_sizeOf_1 : decode cX5_sizeOf 1 = .ok (.iconst 2, 1) := by decide +kernel
theorem dX5_sizeOf_2 : decode cX5_sizeOf 2 = .ok (.if_icmp .ne 5, 3) := by decide +kernel
theorem dX5_sizeOf_5 : decode cX5_sizeOf 5 = .ok (.iconst 2, 1) := by decide +kernel
theorem dX5_sizeOf_6 : decode cX5_sizeOf 6 = .ok (.ireturn, 1) := by decide +kernel
theorem dX5_sizeOf_7 : decode cX5_sizeOf 7 = .ok (.iload_n 0, 1) := by decide +kernel
theorem dX5_sizeOf_8 : decode cX5_sizeOf 8 = .ok (.iconst 3, 1) := by decide +kernel
theorem dX5_sizeOf_9 : decode cX5_sizeOf 9 = .ok (.if_icmp .ne 7, 3) := by decide +kernel
theorem dX5_sizeOf_12 : decode cX5_sizeOf 12 = .ok (.iload_n 1, 1) := by decide +kernel
theorem dX5_sizeOf_13 : decode cX5_sizeOf 13 = .ok (.goto 4, 3) := by decide +kernel
theorem dX5_sizeOf_16 : decode cX5_sizeOf 16 = .ok (.iconst 0, 1) := by decide +kernel
theorem dX5_sizeOf_17 : decode cX5_sizeOf 17 = .ok (.ireturn, 1) := by decide +kernel
theorem dX5_isOfSize_0 : decode cX5_isOfSize 0 = .ok (.iload_n 1, 1) := by decide +kernel
theorem dX5_isOfSize_1 : decode cX5_isOfSize 1 = .ok (.ifCond .eq 12, 3) := by decide +kernel
theorem dX5_isOfSize_4 : decode cX5_isOfSize 4 = .ok (.iload_n 0, 1) := by decide +kernel
theorem dX5_isOfSize_5 : decode cX5_isOfSize 5 = .ok (.ifCond .lt 12, 3) := by decide +kernel
theorem dX5_isOfSize_8 : decode cX5_isOfSize 8 = .ok (.iload_n 0, 1) := by decide +kernel
theorem dX5_isOfSize_9 : decode cX5_isOfSize 9 = .ok (.iload_n 1, 1) := by decide +kernel
theorem dX5_isOfSize_10 : decode cX5_isOfSize 10 = .ok (.if_icmp .ge 7, 3) := by decide +kernel
theorem dX5_isOfSize_13 : decode cX5_isOfSize 13 = .ok (.iconst 1, 1) := by decide +kernel
theorem dX5_isOfSize_14 : decode cX5_isOfSize 14 = .ok (.goto 4, 3) := by decide +kernel
theorem dX5_isOfSize_17 : decode cX5_isOfSize 17 = .ok (.iconst 0, 1) := by decide +kernel
theorem dX5_isOfSize_18 : decode cX5_isOfSize 18 = .ok (.ireturn, 1) := by decide +kernel
theorem dX5_referable_0 : decode cX5_referable 0 = .ok (.iload_n 1, 1) := by decide +kernel
theorem dX5_referable_1 : decode cX5_referable 1 = .ok (.ifCond .lt 17, 3) := by decide +kernel
theorem dX5_referable_4 : decode cX5_referable 4 = .ok (.iload_n 1, 1) := by decide +kernel
theorem dX5_referable_5 : decode cX5_referable 5 = .ok (.bipush 10, 2) := by decide +kernel
theorem dX5_referable_7 : decode cX5_referable 7 = .ok (.idiv, 1) := by decide +kernel
theorem dX5_referable_8 : decode cX5_referable 8 = .ok (.aload_n 0, 1) := by decide +kernel
theorem dX5_referable_9 : decode cX5_referable 9 = .ok (.getfield 10, 3) := by decide +kernel
theorem dX5_referable_12 : decode cX5_referable 12 = .ok (.invokevirtual 84, 3) := by decide +kernel
theorem dX5_referable_15 : decode cX5_referable 15 = .ok (.if_icmp .lt 5, 3) := by decide +kernel
theorem dX5_referable_18 : decode cX5_referable 18 = .ok (.aconst_null, 1) := by decide +kernel
theorem dX5_referable_19 : decode cX5_referable 19 = .ok (.areturn, 1) := by decide +kernel
theorem dX5_referable_20 : decode cX5_referable 20 = .ok (.aload_n 0, 1) := by decide +kernel
theorem dX5_referable_21 : decode cX5_referable 21 = .ok (.getfield 10, 3) := by decide +kernel
theorem dX5_referable_24 : decode cX5_referable 24 = .ok (.iload_n 1, 1) := by decide +kernel
theorem dX5_referable_25 : decode cX5_referable 25 = .ok (.bipush 10, 2) := by decide +kernel
theorem dX5_referable_27 : decode cX5_referable 27 = .ok (.idiv, 1) := by decide +kernel
theorem dX5_referable_28 : decode cX5_referable 28 = .ok (.invokevirtual 242, 3) := by decide +kernel
theorem dX5_referable_31 : decode cX5_referable 31 = .ok (.checkcast 16, 3) := by decide +kernel
theorem dX5_referable_34 : decode cX5_referable 34 = .ok (.iload_n 1, 1) := by decide +kernel
theorem dX5_referable_35 : decode cX5_referable 35 = .ok (.bipush 10, 2) := by decide +kernel
theorem dX5_referable_37 : decode cX5_referable 37 = .ok (.irem, 1) := by decide +kernel
theorem dX5_referable_38 : decode cX5_referable 38 = .ok (.invokevirtual 246, 3) := by decide +kernel
theorem dX5_referable_41 : decode cX5_referable 41 = .ok (.astore_n 2, 1) := by decide +kernel
theorem dX5_referable_42 : decode cX5_referable 42 = .ok (.aload_n 2, 1) := by decide +kernel
theorem dX5_referable_43 : decode cX5_referable 43 = .ok (.ifnull 10, 3) := by decide +kernel
theorem dX5_referable_46 : decode cX5_referable 46 = .ok (.aload_n 2, 1) := by decide +kernel
theorem dX5_referable_47 : decode cX5_referable 47 = .ok (.getfield 181, 3) := by decide +kernel
theorem dX5_referable_50 : decode cX5_referable 50 = .ok (.ifCond .eq 7, 3) := by decide +kernel
theorem dX5_referable_53 : decode cX5_referable 53 = .ok (.aconst_null, 1) := by decide +kernel
theorem dX5_referable_54 : decode cX5_referable 54 = .ok (.goto 7, 3) := by decide +kernel
theorem dX5_referable_57 : decode cX5_referable 57 = .ok (.aload_n 2, 1) := by decide +kernel
theorem dX5_referable_58 : decode cX5_referable 58 = .ok (.getfield 252, 3) := by decide +kernel
theorem dX5_referable_61 : decode cX5_referable 61 = .ok (.areturn, 1) := by decide +kernel
theorem dX5_isReferredTo_0 : decode cX5_isReferredTo 0 = .ok (.aload_n 0, 1) := by decide +kernel
theorem dX5_isReferredTo_1 : decode cX5_isReferredTo 1 = .ok (.getfield 29, 3) := by decide +kernel
theorem dX5_isReferredTo_4 : decode cX5_isReferredTo 4 = .ok (.iload_n 1, 1) := by decide +kernel
theorem dX5_isReferredTo_5 : decode cX5_isReferredTo 5 = .ok (.invokevirtual 261, 3) := by decide +kernel
theorem dX5_isReferredTo_8 : decode cX5_isReferredTo 8 = .ok (.ifCond .eq 5, 3) := by decide +kernel
theorem dX5_isReferredTo_11 : decode cX5_isReferredTo 11 = .ok (.iconst 1, 1) := by decide +kernel
theorem dX5_isReferredTo_12 : decode cX5_isReferredTo 12 = .ok (.ireturn, 1) := by decide +kernel
theorem dX5_isReferredTo_13 : decode cX5_isReferredTo 13 = .ok (.iconst 0, 1) := by decide +kernel
theorem dX5_isReferredTo_14 : decode cX5_isReferredTo 14 = .ok (.istore_n 2, 1) := by decide +kernel
theorem dX5_isReferredTo_15 : decode cX5_isReferredTo 15 = .ok (.iload_n 2, 1) := by decide +kernel
theorem dX5_isReferredTo_16 : decode cX5_isReferredTo 16 = .ok (.aload_n 0, 1) := by decide +kernel
theorem dX5_isReferredTo_17 : decode cX5_isReferredTo 17 = .ok (.getfield 10, 3) := by decide +kernel
theorem dX5_isReferredTo_20 : decode cX5_isReferredTo 20 = .ok (.invokevirtual 84, 3) := by decide +kernel
theorem dX5_isReferredTo_23 : decode cX5_isReferredTo 23 = .ok (.if_icmp .ge 29, 3) := by decide +kernel
theorem dX5_isReferredTo_26 : decode cX5_isReferredTo 26 = .ok (.aload_n 0, 1) := by decide +kernel
theorem dX5_isReferredTo_27 : decode cX5_isReferredTo 27 = .ok (.getfield 10, 3) := by decide +kernel
theorem dX5_isReferredTo_30 : decode cX5_isReferredTo 30 = .ok (.iload_n 2, 1) := by decide +kernel
theorem dX5_isReferredTo_31 : decode cX5_isReferredTo 31 = .ok (.invokevirtual 242, 3) := by decide +kernel
theorem dX5_isReferredTo_34 : decode cX5_isReferredTo 34 = .ok (.checkcast 16, 3) := by decide +kernel
theorem dX5_isReferredTo_37 : decode cX5_isReferredTo 37 = .ok (.iload_n 1, 1) := by decide +kernel
theorem dX5_isReferredTo_38 : decode cX5_isReferredTo 38 = .ok (.invokevirtual 264, 3) := by decide +kernel
theorem dX5_isReferredTo_41 : decode cX5_isReferredTo 41 = .ok (.ifCond .eq 5, 3) := by decide +kernel
theorem dX5_isReferredTo_44 : decode cX5_isReferredTo 44 = .ok (.iconst 1, 1) := by decide +kernel
theorem dX5_isReferredTo_45 : decode cX5_isReferredTo 45 = .ok (.ireturn, 1) := by decide +kernel
theorem dX5_isReferredTo_46 : decode cX5_isReferredTo 46 = .ok (.iinc 2 1, 3) := by decide +kernel
theorem dX5_isReferredTo_49 : decode cX5_isReferredTo 49 = .ok (.goto (-34), 3) := by decide +kernel
theorem dX5_isReferredTo_52 : decode cX5_isReferredTo 52 = .ok (.iconst 0, 1) := by decide +kernel
theorem dX5_isReferredTo_53 : decode cX5_isReferredTo 53 = .ok (.ireturn, 1) := by decide +kernel
theorem dX5_takeDraft_0 : decode cX5_takeDraft 0 = .ok (.iconst 0, 1) := by decide +kernel
theorem dX5_takeDraft_1 : decode cX5_takeDraft 1 = .ok (.istore_n 1, 1) := by decide +kernel
theorem dX5_takeDraft_2 : decode cX5_takeDraft 2 = .ok (.iload_n 1, 1) := by decide +kernel
theorem dX5_takeDraft_3 : decode cX5_takeDraft 3 = .ok (.aload_n 0, 1) := by decide +kernel
theorem dX5_takeDraft_4 : decode cX5_takeDraft 4 = .ok (.getfield 23, 3) := by decide +kernel
theorem dX5_takeDraft_7 : decode cX5_takeDraft 7 = .ok (.invokevirtual 84, 3) := by decide +kernel
theorem dX5_takeDraft_10 : decode cX5_takeDraft 10 = .ok (.if_icmp .ge 49, 3) := by decide +kernel
theorem dX5_takeDraft_13 : decode cX5_takeDraft 13 = .ok (.aload_n 0, 1) := by decide +kernel
theorem dX5_takeDraft_14 : decode cX5_takeDraft 14 = .ok (.getfield 23, 3) := by decide +kernel
theorem dX5_takeDraft_17 : decode cX5_takeDraft 17 = .ok (.iload_n 1, 1) := by decide +kernel
theorem dX5_takeDraft_18 : decode cX5_takeDraft 18 = .ok (.invokevirtual 242, 3) := by decide +kernel
theorem dX5_takeDraft_21 : decode cX5_takeDraft 21 = .ok (.checkcast 26, 3) := by decide +kernel
theorem dX5_takeDraft_24 : decode cX5_takeDraft 24 = .ok (.aload_n 0, 1) := by decide +kernel
theorem dX5_takeDraft_25 : decode cX5_takeDraft 25 = .ok (.getfield 29, 3) := by decide +kernel
theorem dX5_takeDraft_28 : decode cX5_takeDraft 28 = .ok (.invokevirtual 265, 3) := by decide +kernel
theorem dX5_takeDraft_31 : decode cX5_takeDraft 31 = .ok (.ifCond .eq 22, 3) := by decide +kernel
theorem dX5_takeDraft_34 : decode cX5_takeDraft 34 = .ok (.aload_n 0, 1) := by decide +kernel
theorem dX5_takeDraft_35 : decode cX5_takeDraft 35 = .ok (.getfield 29, 3) := by decide +kernel
theorem dX5_takeDraft_38 : decode cX5_takeDraft 38 = .ok (.invokevirtual 137, 3) := by decide +kernel
theorem dX5_takeDraft_41 : decode cX5_takeDraft 41 = .ok (.aload_n 0, 1) := by decide +kernel
theorem dX5_takeDraft_42 : decode cX5_takeDraft 42 = .ok (.getfield 23, 3) := by decide +kernel
theorem dX5_takeDraft_45 : decode cX5_takeDraft 45 = .ok (.iload_n 1, 1) := by decide +kernel
theorem dX5_takeDraft_46 : decode cX5_takeDraft 46 = .ok (.invokevirtual 242, 3) := by decide +kernel
theorem dX5_takeDraft_49 : decode cX5_takeDraft 49 = .ok (.checkcast 26, 3) := by decide +kernel
theorem dX5_takeDraft_52 : decode cX5_takeDraft 52 = .ok (.areturn, 1) := by decide +kernel
theorem dX5_takeDraft_53 : decode cX5_takeDraft 53 = .ok (.iinc 1 1, 3) := by decide +kernel
theorem dX5_takeDraft_56 : decode cX5_takeDraft 56 = .ok (.goto (-54), 3) := by decide +kernel
theorem dX5_takeDraft_59 : decode cX5_takeDraft 59 = .ok (.aload_n 0, 1) := by decide +kernel
theorem dX5_takeDraft_60 : decode cX5_takeDraft 60 = .ok (.getfield 29, 3) := by decide +kernel
theorem dX5_takeDraft_63 : decode cX5_takeDraft 63 = .ok (.astore_n 1, 1) := by decide +kernel
theorem dX5_takeDraft_64 : decode cX5_takeDraft 64 = .ok (.aload_n 1, 1) := by decide +kernel
theorem dX5_takeDraft_65 : decode cX5_takeDraft 65 = .ok (.aload_n 0, 1) := by decide +kernel
theorem dX5_takeDraft_66 : decode cX5_takeDraft 66 = .ok (.getfield 23, 3) := by decide +kernel
theorem dX5_takeDraft_69 : decode cX5_takeDraft 69 = .ok (.invokevirtual 84, 3) := by decide +kernel
theorem dX5_takeDraft_72 : decode cX5_takeDraft 72 = .ok (.putfield 198, 3) := by decide +kernel
theorem dX5_takeDraft_75 : decode cX5_takeDraft 75 = .ok (.aload_n 0, 1) := by decide +kernel
theorem dX5_takeDraft_76 : decode cX5_takeDraft 76 = .ok (.getfield 23, 3) := by decide +kernel
theorem dX5_takeDraft_79 : decode cX5_takeDraft 79 = .ok (.aload_n 1, 1) := by decide +kernel
theorem dX5_takeDraft_80 : decode cX5_takeDraft 80 = .ok (.invokevirtual 19, 3) := by decide +kernel
theorem dX5_takeDraft_83 : decode cX5_takeDraft 83 = .ok (.pop, 1) := by decide +kernel
theorem dX5_takeDraft_84 : decode cX5_takeDraft 84 = .ok (.aload_n 0, 1) := by decide +kernel
theorem dX5_takeDraft_85 : decode cX5_takeDraft 85 = .ok (.new 26, 3) := by decide +kernel
theorem dX5_takeDraft_88 : decode cX5_takeDraft 88 = .ok (.dup, 1) := by decide +kernel
theorem dX5_takeDraft_89 : decode cX5_takeDraft 89 = .ok (.invokespecial 28, 3) := by decide +kernel
theorem dX5_takeDraft_92 : decode cX5_takeDraft 92 = .ok (.putfield 29, 3) := by decide +kernel
theorem dX5_takeDraft_95 : decode cX5_takeDraft 95 = .ok (.aload_n 1, 1) := by decide +kernel
theorem dX5_takeDraft_96 : decode cX5_takeDraft 96 = .ok (.areturn, 1) := by decide +kernel
theorem dX5_canReadSchema_0 : decode cX5_canReadSchema 0 = .ok (.aload_n 0, 1) := by decide +kernel
theorem dX5_canReadSchema_1 : decode cX5_canReadSchema 1 = .ok (.ifnull 13, 3) := by decide +kernel
theorem dX5_canReadSchema_4 : decode cX5_canReadSchema 4 = .ok (.aload_n 1, 1) := by decide +kernel
theorem dX5_canReadSchema_5 : decode cX5_canReadSchema 5 = .ok (.ifnull 9, 3) := by decide +kernel
theorem dX5_canReadSchema_8 : decode cX5_canReadSchema 8 = .ok (.iload_n 2, 1) := by decide +kernel
theorem dX5_canReadSchema_9 : decode cX5_canReadSchema 9 = .ok (.bipush 40, 2) := by decide +kernel
theorem dX5_canReadSchema_11 : decode cX5_canReadSchema 11 = .ok (.if_icmp .le 5, 3) := by decide +kernel
theorem dX5_canReadSchema_14 : decode cX5_canReadSchema 14 = .ok (.iconst 0, 1) := by decide +kernel
theorem dX5_canReadSchema_15 : decode cX5_canReadSchema 15 = .ok (.ireturn, 1) := by decide +kernel
theorem dX5_canReadSchema_16 : decode cX5_canReadSchema 16 = .ok (.iconst 0, 1) := by decide +kernel
theorem dX5_canReadSchema_17 : decode cX5_canReadSchema 17 = .ok (.istore_n 3, 1) := by decide +kernel
theorem dX5_canReadSchema_18 : decode cX5_canReadSchema 18 = .ok (.iload_n 3, 1) := by decide +kernel
theorem dX5_canReadSchema_19 : decode cX5_canReadSchema 19 = .ok (.aload_n 0, 1) := by decide +kernel
theorem dX5_canReadSchema_20 : decode cX5_canReadSchema 20 = .ok (.getfield 81, 3) := by decide +kernel
theorem dX5_canReadSchema_23 : decode cX5_canReadSchema 23 = .ok (.invokevirtual 84, 3) := by decide +kernel
theorem dX5_canReadSchema_26 : decode cX5_canReadSchema 26 = .ok (.if_icmp .ge 30, 3) := by decide +kernel
theorem dX5_canReadSchema_29 : decode cX5_canReadSchema 29 = .ok (.aload_n 0, 1) := by decide +kernel
theorem dX5_canReadSchema_30 : decode cX5_canReadSchema 30 = .ok (.getfield 81, 3) := by decide +kernel
theorem dX5_canReadSchema_33 : decode cX5_canReadSchema 33 = .ok (.iload_n 3, 1) := by decide +kernel
theorem dX5_canReadSchema_34 : decode cX5_canReadSchema 34 = .ok (.invokevirtual 242, 3) := by decide +kernel
theorem dX5_canReadSchema_37 : decode cX5_canReadSchema 37 = .ok (.checkcast 96, 3) := by decide +kernel
theorem dX5_canReadSchema_40 : decode cX5_canReadSchema 40 = .ok (.aload_n 1, 1) := by decide +kernel
theorem dX5_canReadSchema_41 : decode cX5_canReadSchema 41 = .ok (.iload_n 2, 1) := by decide +kernel
theorem dX5_canReadSchema_42 : decode cX5_canReadSchema 42 = .ok (.invokestatic 268, 3) := by decide +kernel
