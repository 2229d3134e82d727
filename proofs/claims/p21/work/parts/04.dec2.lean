theorem dX5_canReadSchema_45 : decode cX5_canReadSchema 45 = .ok (.ifCond .ne 5, 3) := by decide +kernel
theorem dX5_canReadSchema_48 : decode cX5_canReadSchema 48 = .ok (.iconst 0, 1) := by decide +kernel
theorem dX5_canReadSchema_49 : decode cX5_canReadSchema 49 = .ok (.ireturn, 1) := by decide +kernel
theorem dX5_canReadSchema_50 : decode cX5_canReadSchema 50 = .ok (.iinc 3 1, 3) := by decide +kernel
theorem dX5_canReadSchema_53 : decode cX5_canReadSchema 53 = .ok (.goto (-35), 3) := by decide +kernel
theorem dX5_canReadSchema_56 : decode cX5_canReadSchema 56 = .ok (.iconst 1, 1) := by decide +kernel
theorem dX5_canReadSchema_57 : decode cX5_canReadSchema 57 = .ok (.ireturn, 1) := by decide +kernel
theorem dX5_canReadField_0 : decode cX5_canReadField 0 = .ok (.aload_n 1, 1) := by decide +kernel
theorem dX5_canReadField_1 : decode cX5_canReadField 1 = .ok (.aload_n 0, 1) := by decide +kernel
theorem dX5_canReadField_2 : decode cX5_canReadField 2 = .ok (.invokevirtual 272, 3) := by decide +kernel
theorem dX5_canReadField_5 : decode cX5_canReadField 5 = .ok (.astore_n 3, 1) := by decide +kernel
theorem dX5_canReadField_6 : decode cX5_canReadField 6 = .ok (.aload_n 3, 1) := by decide +kernel
theorem dX5_canReadField_7 : decode cX5_canReadField 7 = .ok (.ifnonnull 8, 3) := by decide +kernel
theorem dX5_canReadField_10 : decode cX5_canReadField 10 = .ok (.aload_n 0, 1) := by decide +kernel
theorem dX5_canReadField_11 : decode cX5_canReadField 11 = .ok (.getfield 127, 3) := by decide +kernel
theorem dX5_canReadField_14 : decode cX5_canReadField 14 = .ok (.ireturn, 1) := by decide +kernel
theorem dX5_canReadField_15 : decode cX5_canReadField 15 = .ok (.aload_n 0, 1) := by decide +kernel
theorem dX5_canReadField_16 : decode cX5_canReadField 16 = .ok (.aload_n 3, 1) := by decide +kernel
theorem dX5_canReadField_17 : decode cX5_canReadField 17 = .ok (.getfield 113, 3) := by decide +kernel
theorem dX5_canReadField_20 : decode cX5_canReadField 20 = .ok (.invokevirtual 276, 3) := by decide +kernel
theorem dX5_canReadField_23 : decode cX5_canReadField 23 = .ok (.ifCond .ne 5, 3) := by decide +kernel
theorem dX5_canReadField_26 : decode cX5_canReadField 26 = .ok (.iconst 0, 1) := by decide +kernel
theorem dX5_canReadField_27 : decode cX5_canReadField 27 = .ok (.ireturn, 1) := by decide +kernel
theorem dX5_canReadField_28 : decode cX5_canReadField 28 = .ok (.aload_n 0, 1) := by decide +kernel
theorem dX5_canReadField_29 : decode cX5_canReadField 29 = .ok (.getfield 113, 3) := by decide +kernel
theorem dX5_canReadField_32 : decode cX5_canReadField 32 = .ok (.iconst 3, 1) := by decide +kernel
theorem dX5_canReadField_33 : decode cX5_canReadField 33 = .ok (.if_icmp .ne 27, 3) := by decide +kernel
theorem dX5_canReadField_36 : decode cX5_canReadField 36 = .ok (.aload_n 0, 1) := by decide +kernel
theorem dX5_canReadField_37 : decode cX5_canReadField 37 = .ok (.getfield 119, 3) := by decide +kernel
theorem dX5_canReadField_40 : decode cX5_canReadField 40 = .ok (.aload_n 3, 1) := by decide +kernel
theorem dX5_canReadField_41 : decode cX5_canReadField 41 = .ok (.getfield 119, 3) := by decide +kernel
theorem dX5_canReadField_44 : decode cX5_canReadField 44 = .ok (.if_icmp .ge 10, 3) := by decide +kernel
theorem dX5_canReadField_47 : decode cX5_canReadField 47 = .ok (.aload_n 0, 1) := by decide +kernel
theorem dX5_canReadField_48 : decode cX5_canReadField 48 = .ok (.getfield 127, 3) := by decide +kernel
theorem dX5_canReadField_51 : decode cX5_canReadField 51 = .ok (.ifCond .eq 7, 3) := by decide +kernel
theorem dX5_canReadField_54 : decode cX5_canReadField 54 = .ok (.iconst 1, 1) := by decide +kernel
theorem dX5_canReadField_55 : decode cX5_canReadField 55 = .ok (.goto 4, 3) := by decide +kernel
theorem dX5_canReadField_58 : decode cX5_canReadField 58 = .ok (.iconst 0, 1) := by decide +kernel
theorem dX5_canReadField_59 : decode cX5_canReadField 59 = .ok (.ireturn, 1) := by decide +kernel
theorem dX5_canReadField_60 : decode cX5_canReadField 60 = .ok (.aload_n 0, 1) := by decide +kernel
theorem dX5_canReadField_61 : decode cX5_canReadField 61 = .ok (.getfield 113, 3) := by decide +kernel
theorem dX5_canReadField_64 : decode cX5_canReadField 64 = .ok (.iconst 4, 1) := by decide +kernel
theorem dX5_canReadField_65 : decode cX5_canReadField 65 = .ok (.if_icmp .ne 20, 3) := by decide +kernel
theorem dX5_canReadField_68 : decode cX5_canReadField 68 = .ok (.aload_n 0, 1) := by decide +kernel
theorem dX5_canReadField_69 : decode cX5_canReadField 69 = .ok (.getfield 279, 3) := by decide +kernel
theorem dX5_canReadField_72 : decode cX5_canReadField 72 = .ok (.aload_n 3, 1) := by decide +kernel
theorem dX5_canReadField_73 : decode cX5_canReadField 73 = .ok (.getfield 279, 3) := by decide +kernel
theorem dX5_canReadField_76 : decode cX5_canReadField 76 = .ok (.iload_n 2, 1) := by decide +kernel
theorem dX5_canReadField_77 : decode cX5_canReadField 77 = .ok (.iconst 1, 1) := by decide +kernel
theorem dX5_canReadField_78 : decode cX5_canReadField 78 = .ok (.iadd, 1) := by decide +kernel
theorem dX5_canReadField_79 : decode cX5_canReadField 79 = .ok (.invokestatic 205, 3) := by decide +kernel
theorem dX5_canReadField_82 : decode cX5_canReadField 82 = .ok (.ifCond .eq 7, 3) := by decide +kernel
theorem dX5_canReadField_85 : decode cX5_canReadField 85 = .ok (.iconst 1, 1) := by decide +kernel
theorem dX5_canReadField_86 : decode cX5_canReadField 86 = .ok (.goto 4, 3) := by decide +kernel
theorem dX5_canReadField_89 : decode cX5_canReadField 89 = .ok (.iconst 0, 1) := by decide +kernel
theorem dX5_canReadField_90 : decode cX5_canReadField 90 = .ok (.ireturn, 1) := by decide +kernel
theorem dX5_isRecordOf_0 : decode cX5_isRecordOf 0 = .ok (.aload_n 0, 1) := by decide +kernel
theorem dX5_isRecordOf_1 : decode cX5_isRecordOf 1 = .ok (.getfield 36, 3) := by decide +kernel
theorem dX5_isRecordOf_4 : decode cX5_isRecordOf 4 = .ok (.invokevirtual 77, 3) := by decide +kernel
theorem dX5_isRecordOf_7 : decode cX5_isRecordOf 7 = .ok (.aload_n 1, 1) := by decide +kernel
theorem dX5_isRecordOf_8 : decode cX5_isRecordOf 8 = .ok (.getfield 74, 3) := by decide +kernel
theorem dX5_isRecordOf_11 : decode cX5_isRecordOf 11 = .ok (.invokevirtual 77, 3) := by decide +kernel
theorem dX5_isRecordOf_14 : decode cX5_isRecordOf 14 = .ok (.if_icmp .eq 5, 3) := by decide +kernel
theorem dX5_isRecordOf_17 : decode cX5_isRecordOf 17 = .ok (.iconst 0, 1) := by decide +kernel
theorem dX5_isRecordOf_18 : decode cX5_isRecordOf 18 = .ok (.ireturn, 1) := by decide +kernel
theorem dX5_isRecordOf_19 : decode cX5_isRecordOf 19 = .ok (.iconst 0, 1) := by decide +kernel
theorem dX5_isRecordOf_20 : decode cX5_isRecordOf 20 = .ok (.istore_n 2, 1) := by decide +kernel
theorem dX5_isRecordOf_21 : decode cX5_isRecordOf 21 = .ok (.iload_n 2, 1) := by decide +kernel
theorem dX5_isRecordOf_22 : decode cX5_isRecordOf 22 = .ok (.aload_n 0, 1) := by decide +kernel
theorem dX5_isRecordOf_23 : decode cX5_isRecordOf 23 = .ok (.getfield 36, 3) := by decide +kernel
theorem dX5_isRecordOf_26 : decode cX5_isRecordOf 26 = .ok (.invokevirtual 77, 3) := by decide +kernel
theorem dX5_isRecordOf_29 : decode cX5_isRecordOf 29 = .ok (.if_icmp .ge 33, 3) := by decide +kernel
theorem dX5_isRecordOf_32 : decode cX5_isRecordOf 32 = .ok (.aload_n 0, 1) := by decide +kernel
theorem dX5_isRecordOf_33 : decode cX5_isRecordOf 33 = .ok (.getfield 36, 3) := by decide +kernel
theorem dX5_isRecordOf_36 : decode cX5_isRecordOf 36 = .ok (.iload_n 2, 1) := by decide +kernel
theorem dX5_isRecordOf_37 : decode cX5_isRecordOf 37 = .ok (.invokevirtual 236, 3) := by decide +kernel
theorem dX5_isRecordOf_40 : decode cX5_isRecordOf 40 = .ok (.aload_n 1, 1) := by decide +kernel
theorem dX5_isRecordOf_41 : decode cX5_isRecordOf 41 = .ok (.getfield 74, 3) := by decide +kernel
theorem dX5_isRecordOf_44 : decode cX5_isRecordOf 44 = .ok (.iload_n 2, 1) := by decide +kernel
theorem dX5_isRecordOf_45 : decode cX5_isRecordOf 45 = .ok (.invokevirtual 236, 3) := by decide +kernel
theorem dX5_isRecordOf_48 : decode cX5_isRecordOf 48 = .ok (.invokestatic 121, 3) := by decide +kernel
theorem dX5_isRecordOf_51 : decode cX5_isRecordOf 51 = .ok (.ifCond .ne 5, 3) := by decide +kernel
theorem dX5_isRecordOf_54 : decode cX5_isRecordOf 54 = .ok (.iconst 0, 1) := by decide +kernel
theorem dX5_isRecordOf_55 : decode cX5_isRecordOf 55 = .ok (.ireturn, 1) := by decide +kernel
theorem dX5_isRecordOf_56 : decode cX5_isRecordOf 56 = .ok (.iinc 2 1, 3) := by decide +kernel
theorem dX5_isRecordOf_59 : decode cX5_isRecordOf 59 = .ok (.goto (-38), 3) := by decide +kernel
theorem dX5_isRecordOf_62 : decode cX5_isRecordOf 62 = .ok (.iconst 1, 1) := by decide +kernel
theorem dX5_isRecordOf_63 : decode cX5_isRecordOf 63 = .ok (.ireturn, 1) := by decide +kernel
theorem dX5_readSchema_0 : decode cX5_readSchema 0 = .ok (.aload_n 0, 1) := by decide +kernel
theorem dX5_readSchema_1 : decode cX5_readSchema 1 = .ok (.ifnull 14, 3) := by decide +kernel
theorem dX5_readSchema_4 : decode cX5_readSchema 4 = .ok (.aload_n 1, 1) := by decide +kernel
theorem dX5_readSchema_5 : decode cX5_readSchema 5 = .ok (.ifnull 10, 3) := by decide +kernel
theorem dX5_readSchema_8 : decode cX5_readSchema 8 = .ok (.iload 5, 2) := by decide +kernel
theorem dX5_readSchema_10 : decode cX5_readSchema 10 = .ok (.bipush 40, 2) := by decide +kernel
theorem dX5_readSchema_12 : decode cX5_readSchema 12 = .ok (.if_icmp .le 5, 3) := by decide +kernel
theorem dX5_readSchema_15 : decode cX5_readSchema 15 = .ok (.iconst 0, 1) := by decide +kernel
theorem dX5_readSchema_16 : decode cX5_readSchema 16 = .ok (.ireturn, 1) := by decide +kernel
theorem dX5_readSchema_17 : decode cX5_readSchema 17 = .ok (.iconst 0, 1) := by decide +kernel
theorem dX5_readSchema_18 : decode cX5_readSchema 18 = .ok (.istore 6, 2) := by decide +kernel
theorem dX5_readSchema_20 : decode cX5_readSchema 20 = .ok (.iload 6, 2) := by decide +kernel
theorem dX5_readSchema_22 : decode cX5_readSchema 22 = .ok (.aload_n 0, 1) := by decide +kernel
theorem dX5_readSchema_23 : decode cX5_readSchema 23 = .ok (.getfield 81, 3) := by decide +kernel
theorem dX5_readSchema_26 : decode cX5_readSchema 26 = .ok (.invokevirtual 84, 3) := by decide +kernel
theorem dX5_readSchema_29 : decode cX5_readSchema 29 = .ok (.if_icmp .ge 36, 3) := by decide +kernel
theorem dX5_readSchema_32 : decode cX5_readSchema 32 = .ok (.aload_n 0, 1) := by decide +kernel
theorem dX5_readSchema_33 : decode cX5_readSchema 33 = .ok (.getfield 81, 3) := by decide +kernel
theorem dX5_readSchema_36 : decode cX5_readSchema 36 = .ok (.iload 6, 2) := by decide +kernel
theorem dX5_readSchema_38 : decode cX5_readSchema 38 = .ok (.invokevirtual 242, 3) := by decide +kernel
theorem dX5_readSchema_41 : decode cX5_readSchema 41 = .ok (.checkcast 96, 3) := by decide +kernel
theorem dX5_readSchema_44 : decode cX5_readSchema 44 = .ok (.aload_n 1, 1) := by decide +kernel
theorem dX5_readSchema_45 : decode cX5_readSchema 45 = .ok (.aload_n 2, 1) := by decide +kernel
theorem dX5_readSchema_46 : decode cX5_readSchema 46 = .ok (.iload_n 3, 1) := by decide +kernel
theorem dX5_readSchema_47 : decode cX5_readSchema 47 = .ok (.aload 4, 2) := by decide +kernel
theorem dX5_readSchema_49 : decode cX5_readSchema 49 = .ok (.iload 5, 2) := by decide +kernel
theorem dX5_readSchema_51 : decode cX5_readSchema 51 = .ok (.invokestatic 282, 3) := by decide +kernel
theorem dX5_readSchema_54 : decode cX5_readSchema 54 = .ok (.ifCond .ne 5, 3) := by decide +kernel
theorem dX5_readSchema_57 : decode cX5_readSchema 57 = .ok (.iconst 0, 1) := by decide +kernel
theorem dX5_readSchema_58 : decode cX5_readSchema 58 = .ok (.ireturn, 1) := by decide +kernel
theorem dX5_readSchema_59 : decode cX5_readSchema 59 = .ok (.iinc 6 1, 3) := by decide +kernel
theorem dX5_readSchema_62 : decode cX5_readSchema 62 = .ok (.goto (-42), 3) := by decide +kernel
theorem dX5_readSchema_65 : decode cX5_readSchema 65 = .ok (.iconst 1, 1) := by decide +kernel
theorem dX5_readSchema_66 : decode cX5_readSchema 66 = .ok (.ireturn, 1) := by decide +kernel
theorem dX5_readField_0 : decode cX5_readField 0 = .ok (.aload_n 1, 1) := by decide +kernel
theorem dX5_readField_1 : decode cX5_readField 1 = .ok (.aload_n 0, 1) := by decide +kernel
theorem dX5_readField_2 : decode cX5_readField 2 = .ok (.invokevirtual 272, 3) := by decide +kernel
theorem dX5_readField_5 : decode cX5_readField 5 = .ok (.astore 6, 2) := by decide +kernel
theorem dX5_readField_7 : decode cX5_readField 7 = .ok (.aload 6, 2) := by decide +kernel
theorem dX5_readField_9 : decode cX5_readField 9 = .ok (.ifnonnull 10, 3) := by decide +kernel
theorem dX5_readField_12 : decode cX5_readField 12 = .ok (.aload_n 0, 1) := by decide +kernel
theorem dX5_readField_13 : decode cX5_readField 13 = .ok (.aload 4, 2) := by decide +kernel
theorem dX5_readField_15 : decode cX5_readField 15 = .ok (.invokestatic 286, 3) := by decide +kernel
theorem dX5_readField_18 : decode cX5_readField 18 = .ok (.ireturn, 1) := by decide +kernel
theorem dX5_readField_19 : decode cX5_readField 19 = .ok (.aload_n 0, 1) := by decide +kernel
theorem dX5_readField_20 : decode cX5_readField 20 = .ok (.aload 6, 2) := by decide +kernel
theorem dX5_readField_22 : decode cX5_readField 22 = .ok (.getfield 113, 3) := by decide +kernel
theorem dX5_readField_25 : decode cX5_readField 25 = .ok (.invokevirtual 276, 3) := by decide +kernel
theorem dX5_readField_28 : decode cX5_readField 28 = .ok (.ifCond .ne 5, 3) := by decide +kernel
theorem dX5_readField_31 : decode cX5_readField 31 = .ok (.iconst 0, 1) := by decide +kernel
theorem dX5_readField_32 : decode cX5_readField 32 = .ok (.ireturn, 1) := by decide +kernel
theorem dX5_readField_33 : decode cX5_readField 33 = .ok (.iload_n 3, 1) := by decide +kernel
theorem dX5_readField_34 : decode cX5_readField 34 = .ok (.aload 6, 2) := by decide +kernel
theorem dX5_readField_36 : decode cX5_readField 36 = .ok (.getfield 290, 3) := by decide +kernel
theorem dX5_readField_39 : decode cX5_readField 39 = .ok (.iadd, 1) := by decide +kernel
theorem dX5_readField_40 : decode cX5_readField 40 = .ok (.istore 7, 2) := by decide +kernel
theorem dX5_readField_42 : decode cX5_readField 42 = .ok (.aload_n 0, 1) := by decide +kernel
theorem dX5_readField_43 : decode cX5_readField 43 = .ok (.getfield 113, 3) := by decide +kernel
theorem dX5_readField_46 : decode cX5_readField 46 = .ok (.iconst 4, 1) := by decide +kernel
theorem dX5_readField_47 : decode cX5_readField 47 = .ok (.if_icmp .ne 25, 3) := by decide +kernel
theorem dX5_readField_50 : decode cX5_readField 50 = .ok (.aload_n 0, 1) := by decide +kernel
theorem dX5_readField_51 : decode cX5_readField 51 = .ok (.getfield 279, 3) := by decide +kernel
theorem dX5_readField_54 : decode cX5_readField 54 = .ok (.aload 6, 2) := by decide +kernel
theorem dX5_readField_56 : decode cX5_readField 56 = .ok (.getfield 279, 3) := by decide +kernel
theorem dX5_readField_59 : decode cX5_readField 59 = .ok (.aload_n 2, 1) := by decide +kernel
theorem dX5_readField_60 : decode cX5_readField 60 = .ok (.iload 7, 2) := by decide +kernel
theorem dX5_readField_62 : decode cX5_readField 62 = .ok (.aload 4, 2) := by decide +kernel
theorem dX5_readField_64 : decode cX5_readField 64 = .ok (.iload 5, 2) := by decide +kernel
theorem dX5_readField_66 : decode cX5_readField 66 = .ok (.iconst 1, 1) := by decide +kernel
theorem dX5_readField_67 : decode cX5_readField 67 = .ok (.iadd, 1) := by decide +kernel
theorem dX5_readField_68 : decode cX5_readField 68 = .ok (.invokestatic 220, 3) := by decide +kernel
theorem dX5_readField_71 : decode cX5_readField 71 = .ok (.ireturn, 1) := by decide +kernel
theorem dX5_readField_72 : decode cX5_readField 72 = .ok (.aload_n 2, 1) := by decide +kernel
theorem dX5_readField_73 : decode cX5_readField 73 = .ok (.iload 7, 2) := by decide +kernel
theorem dX5_readField_75 : decode cX5_readField 75 = .ok (.invokevirtual 236, 3) := by decide +kernel
theorem dX5_readField_78 : decode cX5_readField 78 = .ok (.istore 8, 2) := by decide +kernel
theorem dX5_readField_80 : decode cX5_readField 80 = .ok (.aload_n 0, 1) := by decide +kernel
theorem dX5_readField_81 : decode cX5_readField 81 = .ok (.getfield 113, 3) := by decide +kernel
theorem dX5_readField_84 : decode cX5_readField 84 = .ok (.iconst 3, 1) := by decide +kernel
theorem dX5_readField_85 : decode cX5_readField 85 = .ok (.if_icmp .ne 19, 3) := by decide +kernel
theorem dX5_readField_88 : decode cX5_readField 88 = .ok (.iload 8, 2) := by decide +kernel
theorem dX5_readField_90 : decode cX5_readField 90 = .ok (.aload_n 0, 1) := by decide +kernel
theorem dX5_readField_91 : decode cX5_readField 91 = .ok (.getfield 119, 3) := by decide +kernel
theorem dX5_readField_94 : decode cX5_readField 94 = .ok (.if_icmp .lt 10, 3) := by decide +kernel
theorem dX5_readField_97 : decode cX5_readField 97 = .ok (.aload_n 0, 1) := by decide +kernel
theorem dX5_readField_98 : decode cX5_readField 98 = .ok (.aload 4, 2) := by decide +kernel
theorem dX5_readField_100 : decode cX5_readField 100 = .ok (.invokestatic 286, 3) := by decide +kernel
theorem dX5_readField_103 : decode cX5_readField 103 = .ok (.ireturn, 1) := by decide +kernel
theorem dX5_readField_104 : decode cX5_readField 104 = .ok (.aload 4, 2) := by decide +kernel
theorem dX5_readField_106 : decode cX5_readField 106 = .ok (.iload 8, 2) := by decide +kernel
theorem dX5_readField_108 : decode cX5_readField 108 = .ok (.invokevirtual 226, 3) := by decide +kernel
theorem dX5_readField_111 : decode cX5_readField 111 = .ok (.iconst 1, 1) := by decide +kernel
theorem dX5_readField_112 : decode cX5_readField 112 = .ok (.ireturn, 1) := by decide +kernel
theorem dX5_readDefault_0 : decode cX5_readDefault 0 = .ok (.aload_n 0, 1) := by decide +kernel
theorem dX5_readDefault_1 : decode cX5_readDefault 1 = .ok (.getfield 127, 3) := by decide +kernel
theorem dX5_readDefault_4 : decode cX5_readDefault 4 = .ok (.ifCond .eq 11, 3) := by decide +kernel
theorem dX5_readDefault_7 : decode cX5_readDefault 7 = .ok (.aload_n 1, 1) := by decide +kernel
theorem dX5_readDefault_8 : decode cX5_readDefault 8 = .ok (.aload_n 0, 1) := by decide +kernel
theorem dX5_readDefault_9 : decode cX5_readDefault 9 = .ok (.getfield 131, 3) := by decide +kernel
theorem dX5_readDefault_12 : decode cX5_readDefault 12 = .ok (.invokevirtual 226, 3) := by decide +kernel
theorem dX5_readDefault_15 : decode cX5_readDefault 15 = .ok (.aload_n 0, 1) := by decide +kernel
theorem dX5_readDefault_16 : decode cX5_readDefault 16 = .ok (.getfield 127, 3) := by decide +kernel
theorem dX5_readDefault_19 : decode cX5_readDefault 19 = .ok (.ireturn, 1) := by decide +kernel
theorem dX5_countSmallRecords_0 : decode cX5_countSmallRecords 0 = .ok (.iconst 1, 1) := by decide +kernel
theorem dX5_countSmallRecords_1 : decode cX5_countSmallRecords 1 = .ok (.istore_n 1, 1) := by decide +kernel
theorem dX5_countSmallRecords_2 : decode cX5_countSmallRecords 2 = .ok (.iconst 0, 1) := by decide +kernel
theorem dX5_countSmallRecords_3 : decode cX5_countSmallRecords 3 = .ok (.istore_n 2, 1) := by decide +kernel
theorem dX5_countSmallRecords_4 : decode cX5_countSmallRecords 4 = .ok (.iload_n 2, 1) := by decide +kernel
theorem dX5_countSmallRecords_5 : decode cX5_countSmallRecords 5 = .ok (.aload_n 0, 1) := by decide +kernel
theorem dX5_countSmallRecords_6 : decode cX5_countSmallRecords 6 = .ok (.invokevirtual 77, 3) := by decide +kernel
theorem dX5_countSmallRecords_9 : decode cX5_countSmallRecords 9 = .ok (.if_icmp .ge 32, 3) := by decide +kernel
theorem dX5_countSmallRecords_12 : decode cX5_countSmallRecords 12 = .ok (.iload_n 1, 1) := by decide +kernel
theorem dX5_countSmallRecords_13 : decode cX5_countSmallRecords 13 = .ok (.sipush 300, 3) := by decide +kernel
theorem dX5_countSmallRecords_16 : decode cX5_countSmallRecords 16 = .ok (.if_icmp .gt 25, 3) := by decide +kernel
theorem dX5_countSmallRecords_19 : decode cX5_countSmallRecords 19 = .ok (.aload_n 0, 1) := by decide +kernel
theorem dX5_countSmallRecords_20 : decode cX5_countSmallRecords 20 = .ok (.iload_n 2, 1) := by decide +kernel
theorem dX5_countSmallRecords_21 : decode cX5_countSmallRecords 21 = .ok (.invokevirtual 236, 3) := by decide +kernel
theorem dX5_countSmallRecords_24 : decode cX5_countSmallRecords 24 = .ok (.ifCond .eq 11, 3) := by decide +kernel
theorem dX5_countSmallRecords_27 : decode cX5_countSmallRecords 27 = .ok (.iload_n 1, 1) := by decide +kernel
theorem dX5_countSmallRecords_28 : decode cX5_countSmallRecords 28 = .ok (.aload_n 0, 1) := by decide +kernel
theorem dX5_countSmallRecords_29 : decode cX5_countSmallRecords 29 = .ok (.iload_n 2, 1) := by decide +kernel
theorem dX5_countSmallRecords_30 : decode cX5_countSmallRecords 30 = .ok (.invokevirtual 236, 3) := by decide +kernel
theorem dX5_countSmallRecords_33 : decode cX5_countSmallRecords 33 = .ok (.imul, 1) := by decide +kernel
theorem dX5_countSmallRecords_34 : decode cX5_countSmallRecords 34 = .ok (.istore_n 1, 1) := by decide +kernel
theorem dX5_countSmallRecords_35 : decode cX5_countSmallRecords 35 = .ok (.iinc 2 1, 3) := by decide +kernel
theorem dX5_countSmallRecords_38 : decode cX5_countSmallRecords 38 = .ok (.goto (-34), 3) := by decide +kernel
theorem dX5_countSmallRecords_41 : decode cX5_countSmallRecords 41 = .ok (.iload_n 1, 1) := by decide +kernel
theorem dX5_countSmallRecords_42 : decode cX5_countSmallRecords 42 = .ok (.ireturn, 1) := by decide +kernel
theorem dX5_putSmallRecord_0 : decode cX5_putSmallRecord 0 = .ok (.iload_n 2, 1) := by decide +kernel
theorem dX5_putSmallRecord_1 : decode cX5_putSmallRecord 1 = .ok (.istore_n 3, 1) := by decide +kernel
theorem dX5_putSmallRecord_2 : decode cX5_putSmallRecord 2 = .ok (.aload_n 0, 1) := by decide +kernel
theorem dX5_putSmallRecord_3 : decode cX5_putSmallRecord 3 = .ok (.invokevirtual 219, 3) := by decide +kernel
theorem dX5_putSmallRecord_6 : decode cX5_putSmallRecord 6 = .ok (.iconst 0, 1) := by decide +kernel
theorem dX5_putSmallRecord_7 : decode cX5_putSmallRecord 7 = .ok (.istore 4, 2) := by decide +kernel
theorem dX5_putSmallRecord_9 : decode cX5_putSmallRecord 9 = .ok (.iload 4, 2) := by decide +kernel
theorem dX5_putSmallRecord_11 : decode cX5_putSmallRecord 11 = .ok (.aload_n 1, 1) := by decide +kernel
theorem dX5_putSmallRecord_12 : decode cX5_putSmallRecord 12 = .ok (.invokevirtual 77, 3) := by decide +kernel
theorem dX5_putSmallRecord_15 : decode cX5_putSmallRecord 15 = .ok (.if_icmp .ge 43, 3) := by decide +kernel
theorem dX5_putSmallRecord_18 : decode cX5_putSmallRecord 18 = .ok (.aload_n 1, 1) := by decide +kernel
theorem dX5_putSmallRecord_19 : decode cX5_putSmallRecord 19 = .ok (.iload 4, 2) := by decide +kernel
theorem dX5_putSmallRecord_21 : decode cX5_putSmallRecord 21 = .ok (.invokevirtual 236, 3) := by decide +kernel
theorem dX5_putSmallRecord_24 : decode cX5_putSmallRecord 24 = .ok (.istore 5, 2) := by decide +kernel
theorem dX5_putSmallRecord_26 : decode cX5_putSmallRecord 26 = .ok (.iload 5, 2) := by decide +kernel
theorem dX5_putSmallRecord_28 : decode cX5_putSmallRecord 28 = .ok (.ifCond .le 19, 3) := by decide +kernel
theorem dX5_putSmallRecord_31 : decode cX5_putSmallRecord 31 = .ok (.aload_n 0, 1) := by decide +kernel
theorem dX5_putSmallRecord_32 : decode cX5_putSmallRecord 32 = .ok (.iload_n 3, 1) := by decide +kernel
theorem dX5_putSmallRecord_33 : decode cX5_putSmallRecord 33 = .ok (.iload 5, 2) := by decide +kernel
theorem dX5_putSmallRecord_35 : decode cX5_putSmallRecord 35 = .ok (.irem, 1) := by decide +kernel
theorem dX5_putSmallRecord_36 : decode cX5_putSmallRecord 36 = .ok (.invokevirtual 226, 3) := by decide +kernel
theorem dX5_putSmallRecord_39 : decode cX5_putSmallRecord 39 = .ok (.iload_n 3, 1) := by decide +kernel
theorem dX5_putSmallRecord_40 : decode cX5_putSmallRecord 40 = .ok (.iload 5, 2) := by decide +kernel
theorem dX5_putSmallRecord_42 : decode cX5_putSmallRecord 42 = .ok (.idiv, 1) := by decide +kernel
theorem dX5_putSmallRecord_43 : decode cX5_putSmallRecord 43 = .ok (.istore_n 3, 1) := by decide +kernel
theorem dX5_putSmallRecord_44 : decode cX5_putSmallRecord 44 = .ok (.goto 8, 3) := by decide +kernel
theorem dX5_putSmallRecord_47 : decode cX5_putSmallRecord 47 = .ok (.aload_n 0, 1) := by decide +kernel
theorem dX5_putSmallRecord_48 : decode cX5_putSmallRecord 48 = .ok (.iconst 0, 1) := by decide +kernel
theorem dX5_putSmallRecord_49 : decode cX5_putSmallRecord 49 = .ok (.invokevirtual 226, 3) := by decide +kernel
theorem dX5_putSmallRecord_52 : decode cX5_putSmallRecord 52 = .ok (.iinc 4 1, 3) := by decide +kernel
theorem dX5_putSmallRecord_55 : decode cX5_putSmallRecord 55 = .ok (.goto (-46), 3) := by decide +kernel
theorem dX5_putSmallRecord_58 : decode cX5_putSmallRecord 58 = .ok (.return_, 1) := by decide +kernel
theorem dJ9_max_7cf53_0 : decode cJ9_max_7cf53 0 = .ok (.iload_n 0, 1) := by decide +kernel
theorem dJ9_max_7cf53_1 : decode cJ9_max_7cf53 1 = .ok (.iload_n 1, 1) := by decide +kernel
theorem dJ9_max_7cf53_2 : decode cJ9_max_7cf53 2 = .ok (.if_icmp .lt 7, 3) := by decide +kernel
theorem dJ9_max_7cf53_5 : decode cJ9_max_7cf53 5 = .ok (.iload_n 0, 1) := by decide +kernel
theorem dJ9_max_7cf53_6 : decode cJ9_max_7cf53 6 = .ok (.goto 4, 3) := by decide +kernel
theorem dJ9_max_7cf53_9 : decode cJ9_max_7cf53 9 = .ok (.iload_n 1, 1) := by decide +kernel
theorem dJ9_max_7cf53_10 : decode cJ9_max_7cf53 10 = .ok (.ireturn, 1) := by decide +kernel
theorem dJ9_min_7cf53_0 : decode cJ9_min_7cf53 0 = .ok (.iload_n 0, 1) := by decide +kernel
theorem dJ9_min_7cf53_1 : decode cJ9_min_7cf53 1 = .ok (.iload_n 1, 1) := by decide +kernel
theorem dJ9_min_7cf53_2 : decode cJ9_min_7cf53 2 = .ok (.if_icmp .gt 7, 3) := by decide +kernel
theorem dJ9_min_7cf53_5 : decode cJ9_min_7cf53 5 = .ok (.iload_n 0, 1) := by decide +kernel
theorem dJ9_min_7cf53_6 : decode cJ9_min_7cf53 6 = .ok (.goto 4, 3) := by decide +kernel
theorem dJ9_min_7cf53_9 : decode cJ9_min_7cf53 9 = .ok (.iload_n 1, 1) := by decide +kernel
theorem dJ9_min_7cf53_10 : decode cJ9_min_7cf53 10 = .ok (.ireturn, 1) := by decide +kernel
theorem dJxa1e45_init_da8c8_0 : decode cJxa1e45_init_da8c8 0 = .ok (.aload_n 0, 1) := by decide +kernel
theorem dJxa1e45_init_da8c8_1 : decode cJxa1e45_init_da8c8 1 = .ok (.invokespecial 1, 3) := by decide +kernel
theorem dJxa1e45_init_da8c8_4 : decode cJxa1e45_init_da8c8 4 = .ok (.return_, 1) := by decide +kernel
theorem dJxc12de_init_da8c8_0 : decode cJxc12de_init_da8c8 0 = .ok (.aload_n 0, 1) := by decide +kernel
theorem dJxc12de_init_da8c8_1 : decode cJxc12de_init_da8c8 1 = .ok (.invokespecial 1, 3) := by decide +kernel
theorem dJxc12de_init_da8c8_4 : decode cJxc12de_init_da8c8 4 = .ok (.aload_n 0, 1) := by decide +kernel
theorem dJxc12de_init_da8c8_5 : decode cJxc12de_init_da8c8 5 = .ok (.iconst 0, 1) := by decide +kernel
theorem dJxc12de_init_da8c8_6 : decode cJxc12de_init_da8c8 6 = .ok (.putfield 7, 3) := by decide +kernel
theorem dJxc12de_init_da8c8_9 : decode cJxc12de_init_da8c8 9 = .ok (.return_, 1) := by decide +kernel
theorem dJx4a65c_init_da8c8_0 : decode cJx4a65c_init_da8c8 0 = .ok (.aload_n 0, 1) := by decide +kernel
theorem dJx4a65c_init_da8c8_1 : decode cJx4a65c_init_da8c8 1 = .ok (.invokespecial 1, 3) := by decide +kernel
theorem dJx4a65c_init_da8c8_4 : decode cJx4a65c_init_da8c8 4 = .ok (.aload_n 0, 1) := by decide +kernel
theorem dJx4a65c_init_da8c8_5 : decode cJx4a65c_init_da8c8 5 = .ok (.getstatic 39, 3) := by decide +kernel
theorem dJx4a65c_init_da8c8_8 : decode cJx4a65c_init_da8c8 8 = .ok (.putfield 9, 3) := by decide +kernel
theorem dJx4a65c_init_da8c8_11 : decode cJx4a65c_init_da8c8 11 = .ok (.return_, 1) := by decide +kernel
theorem dJx4a65c_grow_92f84_0 : decode cJx4a65c_grow_92f84 0 = .ok (.aload_n 0, 1) := by decide +kernel
theorem dJx4a65c_grow_92f84_1 : decode cJx4a65c_grow_92f84 1 = .ok (.getfield 9, 3) := by decide +kernel
theorem dJx4a65c_grow_92f84_4 : decode cJx4a65c_grow_92f84 4 = .ok (.arraylength, 1) := by decide +kernel
theorem dJx4a65c_grow_92f84_5 : decode cJx4a65c_grow_92f84 5 = .ok (.istore_n 2, 1) := by decide +kernel
theorem dJx4a65c_grow_92f84_6 : decode cJx4a65c_grow_92f84 6 = .ok (.iload_n 2, 1) := by decide +kernel
theorem dJx4a65c_grow_92f84_7 : decode cJx4a65c_grow_92f84 7 = .ok (.ifCond .gt 13, 3) := by decide +kernel
theorem dJx4a65c_grow_92f84_10 : decode cJx4a65c_grow_92f84 10 = .ok (.aload_n 0, 1) := by decide +kernel
theorem dJx4a65c_grow_92f84_11 : decode cJx4a65c_grow_92f84 11 = .ok (.getfield 9, 3) := by decide +kernel
theorem dJx4a65c_grow_92f84_14 : decode cJx4a65c_grow_92f84 14 = .ok (.getstatic 39, 3) := by decide +kernel
theorem dJx4a65c_grow_92f84_17 : decode cJx4a65c_grow_92f84 17 = .ok (.if_acmp .eq 28, 3) := by decide +kernel
theorem dJx4a65c_grow_92f84_20 : decode cJx4a65c_grow_92f84 20 = .ok (.iload_n 2, 1) := by decide +kernel
theorem dJx4a65c_grow_92f84_21 : decode cJx4a65c_grow_92f84 21 = .ok (.iload_n 1, 1) := by decide +kernel
theorem dJx4a65c_grow_92f84_22 : decode cJx4a65c_grow_92f84 22 = .ok (.iload_n 2, 1) := by decide +kernel
theorem dJx4a65c_grow_92f84_23 : decode cJx4a65c_grow_92f84 23 = .ok (.isub, 1) := by decide +kernel
theorem dJx4a65c_grow_92f84_24 : decode cJx4a65c_grow_92f84 24 = .ok (.iload_n 2, 1) := by decide +kernel
theorem dJx4a65c_grow_92f84_25 : decode cJx4a65c_grow_92f84 25 = .ok (.iconst 1, 1) := by decide +kernel
theorem dJx4a65c_grow_92f84_26 : decode cJx4a65c_grow_92f84 26 = .ok (.ishr, 1) := by decide +kernel
theorem dJx4a65c_grow_92f84_27 : decode cJx4a65c_grow_92f84 27 = .ok (.invokestatic 73, 3) := by decide +kernel
theorem dJx4a65c_grow_92f84_30 : decode cJx4a65c_grow_92f84 30 = .ok (.istore_n 3, 1) := by decide +kernel
theorem dJx4a65c_grow_92f84_31 : decode cJx4a65c_grow_92f84 31 = .ok (.aload_n 0, 1) := by decide +kernel
theorem dJx4a65c_grow_92f84_32 : decode cJx4a65c_grow_92f84 32 = .ok (.aload_n 0, 1) := by decide +kernel
theorem dJx4a65c_grow_92f84_33 : decode cJx4a65c_grow_92f84 33 = .ok (.getfield 9, 3) := by decide +kernel
theorem dJx4a65c_grow_92f84_36 : decode cJx4a65c_grow_92f84 36 = .ok (.iload_n 3, 1) := by decide +kernel
theorem dJx4a65c_grow_92f84_37 : decode cJx4a65c_grow_92f84 37 = .ok (.invokestatic 66, 3) := by decide +kernel
theorem dJx4a65c_grow_92f84_40 : decode cJx4a65c_grow_92f84 40 = .ok (.dup_x1, 1) := by decide +kernel
theorem dJx4a65c_grow_92f84_41 : decode cJx4a65c_grow_92f84 41 = .ok (.putfield 9, 3) := by decide +kernel
theorem dJx4a65c_grow_92f84_44 : decode cJx4a65c_grow_92f84 44 = .ok (.areturn, 1) := by decide +kernel
theorem dJx4a65c_grow_92f84_45 : decode cJx4a65c_grow_92f84 45 = .ok (.aload_n 0, 1) := by decide +kernel
theorem dJx4a65c_grow_92f84_46 : decode cJx4a65c_grow_92f84 46 = .ok (.bipush 10, 2) := by decide +kernel
theorem dJx4a65c_grow_92f84_48 : decode cJx4a65c_grow_92f84 48 = .ok (.iload_n 1, 1) := by decide +kernel
theorem dJx4a65c_grow_92f84_49 : decode cJx4a65c_grow_92f84 49 = .ok (.invokestatic 79, 3) := by decide +kernel
theorem dJx4a65c_grow_92f84_52 : decode cJx4a65c_grow_92f84 52 = .ok (.anewarray 7, 3) := by decide +kernel
theorem dJx4a65c_grow_92f84_55 : decode cJx4a65c_grow_92f84 55 = .ok (.dup_x1, 1) := by decide +kernel
theorem dJx4a65c_grow_92f84_56 : decode cJx4a65c_grow_92f84 56 = .ok (.putfield 9, 3) := by decide +kernel
theorem dJx4a65c_grow_92f84_59 : decode cJx4a65c_grow_92f84 59 = .ok (.areturn, 1) := by decide +kernel
theorem dJx4a65c_grow_d5877_0 : decode cJx4a65c_grow_d5877 0 = .ok (.aload_n 0, 1) := by decide +kernel
theorem dJx4a65c_grow_d5877_1 : decode cJx4a65c_grow_d5877 1 = .ok (.aload_n 0, 1) := by decide +kernel
theorem dJx4a65c_grow_d5877_2 : decode cJx4a65c_grow_d5877 2 = .ok (.getfield 48, 3) := by decide +kernel
theorem dJx4a65c_grow_d5877_5 : decode cJx4a65c_grow_d5877 5 = .ok (.iconst 1, 1) := by decide +kernel
theorem dJx4a65c_grow_d5877_6 : decode cJx4a65c_grow_d5877 6 = .ok (.iadd, 1) := by decide +kernel
theorem dJx4a65c_grow_d5877_7 : decode cJx4a65c_grow_d5877 7 = .ok (.invokevirtual 69, 3) := by decide +kernel
theorem dJx4a65c_grow_d5877_10 : decode cJx4a65c_grow_d5877 10 = .ok (.areturn, 1) := by decide +kernel
theorem dJx4a65c_size_8abf5_0 : decode cJx4a65c_size_8abf5 0 = .ok (.aload_n 0, 1) := by decide +kernel
theorem dJx4a65c_size_8abf5_1 : decode cJx4a65c_size_8abf5 1 = .ok (.getfield 48, 3) := by decide +kernel
theorem dJx4a65c_size_8abf5_4 : decode cJx4a65c_size_8abf5 4 = .ok (.ireturn, 1) := by decide +kernel
theorem dJx4a65c_isEmpty_aae02_0 : decode cJx4a65c_isEmpty_aae02 0 = .ok (.aload_n 0, 1) := by decide +kernel
theorem dJx4a65c_isEmpty_aae02_1 : decode cJx4a65c_isEmpty_aae02 1 = .ok (.getfield 48, 3) := by decide +kernel
theorem dJx4a65c_isEmpty_aae02_4 : decode cJx4a65c_isEmpty_aae02 4 = .ok (.ifCond .ne 7, 3) := by decide +kernel
theorem dJx4a65c_isEmpty_aae02_7 : decode cJx4a65c_isEmpty_aae02 7 = .ok (.iconst 1, 1) := by decide +kernel
theorem dJx4a65c_isEmpty_aae02_8 : decode cJx4a65c_isEmpty_aae02 8 = .ok (.goto 4, 3) := by decide +kernel
theorem dJx4a65c_isEmpty_aae02_11 : decode cJx4a65c_isEmpty_aae02 11 = .ok (.iconst 0, 1) := by decide +kernel
theorem dJx4a65c_isEmpty_aae02_12 : decode cJx4a65c_isEmpty_aae02 12 = .ok (.ireturn, 1) := by decide +kernel
theorem dJx4a65c_elementData_915e3_0 : decode cJx4a65c_elementData_915e3 0 = .ok (.aload_n 0, 1) := by decide +kernel
theorem dJx4a65c_elementData_915e3_1 : decode cJx4a65c_elementData_915e3 1 = .ok (.getfield 9, 3) := by decide +kernel
theorem dJx4a65c_elementData_915e3_4 : decode cJx4a65c_elementData_915e3 4 = .ok (.iload_n 1, 1) := by decide +kernel
theorem dJx4a65c_elementData_915e3_5 : decode cJx4a65c_elementData_915e3 5 = .ok (.aaload, 1) := by decide +kernel
theorem dJx4a65c_elementData_915e3_6 : decode cJx4a65c_elementData_915e3 6 = .ok (.areturn, 1) := by decide +kernel
theorem dJx4a65c_get_915e3_0 : decode cJx4a65c_get_915e3 0 = .ok (.iload_n 1, 1) := by decide +kernel
theorem dJx4a65c_get_915e3_1 : decode cJx4a65c_get_915e3 1 = .ok (.aload_n 0, 1) := by decide +kernel
theorem dJx4a65c_get_915e3_2 : decode cJx4a65c_get_915e3 2 = .ok (.getfield 48, 3) := by decide +kernel
theorem dJx4a65c_get_915e3_5 : decode cJx4a65c_get_915e3 5 = .ok (.invokestatic 118, 3) := by decide +kernel
theorem dJx4a65c_get_915e3_8 : decode cJx4a65c_get_915e3 8 = .ok (.pop, 1) := by decide +kernel
theorem dJx4a65c_get_915e3_9 : decode cJx4a65c_get_915e3 9 = .ok (.aload_n 0, 1) := by decide +kernel
theorem dJx4a65c_get_915e3_10 : decode cJx4a65c_get_915e3 10 = .ok (.iload_n 1, 1) := by decide +kernel
theorem dJx4a65c_get_915e3_11 : decode cJx4a65c_get_915e3 11 = .ok (.invokevirtual 123, 3) := by decide +kernel
theorem dJx4a65c_get_915e3_14 : decode cJx4a65c_get_915e3 14 = .ok (.areturn, 1) := by decide +kernel
theorem dJx4a65c_add_72be8_0 : decode cJx4a65c_add_72be8 0 = .ok (.iload_n 3, 1) := by decide +kernel
theorem dJx4a65c_add_72be8_1 : decode cJx4a65c_add_72be8 1 = .ok (.aload_n 2, 1) := by decide +kernel
theorem dJx4a65c_add_72be8_2 : decode cJx4a65c_add_72be8 2 = .ok (.arraylength, 1) := by decide +kernel
theorem dJx4a65c_add_72be8_3 : decode cJx4a65c_add_72be8 3 = .ok (.if_icmp .ne 8, 3) := by decide +kernel
theorem dJx4a65c_add_72be8_6 : decode cJx4a65c_add_72be8 6 = .ok (.aload_n 0, 1) := by decide +kernel
theorem dJx4a65c_add_72be8_7 : decode cJx4a65c_add_72be8 7 = .ok (.invokevirtual 129, 3) := by decide +kernel
theorem dJx4a65c_add_72be8_10 : decode cJx4a65c_add_72be8 10 = .ok (.astore_n 2, 1) := by decide +kernel
theorem dJx4a65c_add_72be8_11 : decode cJx4a65c_add_72be8 11 = .ok (.aload_n 2, 1) := by decide +kernel
theorem dJx4a65c_add_72be8_12 : decode cJx4a65c_add_72be8 12 = .ok (.iload_n 3, 1) := by decide +kernel
theorem dJx4a65c_add_72be8_13 : decode cJx4a65c_add_72be8 13 = .ok (.aload_n 1, 1) := by decide +kernel
theorem dJx4a65c_add_72be8_14 : decode cJx4a65c_add_72be8 14 = .ok (.aastore, 1) := by decide +kernel
theorem dJx4a65c_add_72be8_15 : decode cJx4a65c_add_72be8 15 = .ok (.aload_n 0, 1) := by decide +kernel
theorem dJx4a65c_add_72be8_16 : decode cJx4a65c_add_72be8 16 = .ok (.iload_n 3, 1) := by decide +kernel
theorem dJx4a65c_add_72be8_17 : decode cJx4a65c_add_72be8 17 = .ok (.iconst 1, 1) := by decide +kernel
theorem dJx4a65c_add_72be8_18 : decode cJx4a65c_add_72be8 18 = .ok (.iadd, 1) := by decide +kernel
theorem dJx4a65c_add_72be8_19 : decode cJx4a65c_add_72be8 19 = .ok (.putfield 48, 3) := by decide +kernel
theorem dJx4a65c_add_72be8_22 : decode cJx4a65c_add_72be8 22 = .ok (.return_, 1) := by decide +kernel
theorem dJx4a65c_add_9ea2d_0 : decode cJx4a65c_add_9ea2d 0 = .ok (.aload_n 0, 1) := by decide +kernel
theorem dJx4a65c_add_9ea2d_1 : decode cJx4a65c_add_9ea2d 1 = .ok (.dup, 1) := by decide +kernel
theorem dJx4a65c_add_9ea2d_2 : decode cJx4a65c_add_9ea2d 2 = .ok (.getfield 63, 3) := by decide +kernel
theorem dJx4a65c_add_9ea2d_5 : decode cJx4a65c_add_9ea2d 5 = .ok (.iconst 1, 1) := by decide +kernel
theorem dJx4a65c_add_9ea2d_6 : decode cJx4a65c_add_9ea2d 6 = .ok (.iadd, 1) := by decide +kernel
theorem dJx4a65c_add_9ea2d_7 : decode cJx4a65c_add_9ea2d 7 = .ok (.putfield 63, 3) := by decide +kernel
theorem dJx4a65c_add_9ea2d_10 : decode cJx4a65c_add_9ea2d 10 = .ok (.aload_n 0, 1) := by decide +kernel
theorem dJx4a65c_add_9ea2d_11 : decode cJx4a65c_add_9ea2d 11 = .ok (.aload_n 1, 1) := by decide +kernel
theorem dJx4a65c_add_9ea2d_12 : decode cJx4a65c_add_9ea2d 12 = .ok (.aload_n 0, 1) := by decide +kernel
theorem dJx4a65c_add_9ea2d_13 : decode cJx4a65c_add_9ea2d 13 = .ok (.getfield 9, 3) := by decide +kernel
theorem dJx4a65c_add_9ea2d_16 : decode cJx4a65c_add_9ea2d 16 = .ok (.aload_n 0, 1) := by decide +kernel
theorem dJx4a65c_add_9ea2d_17 : decode cJx4a65c_add_9ea2d 17 = .ok (.getfield 48, 3) := by decide +kernel
theorem dJx4a65c_add_9ea2d_20 : decode cJx4a65c_add_9ea2d 20 = .ok (.invokevirtual 131, 3) := by decide +kernel
theorem dJx4a65c_add_9ea2d_23 : decode cJx4a65c_add_9ea2d 23 = .ok (.iconst 1, 1) := by decide +kernel
theorem dJx4a65c_add_9ea2d_24 : decode cJx4a65c_add_9ea2d 24 = .ok (.ireturn, 1) := by decide +kernel
theorem dJx4a65c_clear_da8c8_0 : decode cJx4a65c_clear_da8c8 0 = .ok (.aload_n 0, 1) := by decide +kernel
theorem dJx4a65c_clear_da8c8_1 : decode cJx4a65c_clear_da8c8 1 = .ok (.dup, 1) := by decide +kernel
theorem dJx4a65c_clear_da8c8_2 : decode cJx4a65c_clear_da8c8 2 = .ok (.getfield 63, 3) := by decide +kernel
theorem dJx4a65c_clear_da8c8_5 : decode cJx4a65c_clear_da8c8 5 = .ok (.iconst 1, 1) := by decide +kernel
theorem dJx4a65c_clear_da8c8_6 : decode cJx4a65c_clear_da8c8 6 = .ok (.iadd, 1) := by decide +kernel
theorem dJx4a65c_clear_da8c8_7 : decode cJx4a65c_clear_da8c8 7 = .ok (.putfield 63, 3) := by decide +kernel
theorem dJx4a65c_clear_da8c8_10 : decode cJx4a65c_clear_da8c8 10 = .ok (.aload_n 0, 1) := by decide +kernel
theorem dJx4a65c_clear_da8c8_11 : decode cJx4a65c_clear_da8c8 11 = .ok (.getfield 9, 3) := by decide +kernel
theorem dJx4a65c_clear_da8c8_14 : decode cJx4a65c_clear_da8c8 14 = .ok (.astore_n 1, 1) := by decide +kernel
theorem dJx4a65c_clear_da8c8_15 : decode cJx4a65c_clear_da8c8 15 = .ok (.aload_n 0, 1) := by decide +kernel
theorem dJx4a65c_clear_da8c8_16 : decode cJx4a65c_clear_da8c8 16 = .ok (.getfield 48, 3) := by decide +kernel
theorem dJx4a65c_clear_da8c8_19 : decode cJx4a65c_clear_da8c8 19 = .ok (.istore_n 2, 1) := by decide +kernel
theorem dJx4a65c_clear_da8c8_20 : decode cJx4a65c_clear_da8c8 20 = .ok (.aload_n 0, 1) := by decide +kernel
theorem dJx4a65c_clear_da8c8_21 : decode cJx4a65c_clear_da8c8 21 = .ok (.iconst 0, 1) := by decide +kernel
theorem dJx4a65c_clear_da8c8_22 : decode cJx4a65c_clear_da8c8 22 = .ok (.dup_x1, 1) := by decide +kernel
theorem dJx4a65c_clear_da8c8_23 : decode cJx4a65c_clear_da8c8 23 = .ok (.putfield 48, 3) := by decide +kernel
theorem dJx4a65c_clear_da8c8_26 : decode cJx4a65c_clear_da8c8 26 = .ok (.istore_n 3, 1) := by decide +kernel
theorem dJx4a65c_clear_da8c8_27 : decode cJx4a65c_clear_da8c8 27 = .ok (.iload_n 3, 1) := by decide +kernel
theorem dJx4a65c_clear_da8c8_28 : decode cJx4a65c_clear_da8c8 28 = .ok (.iload_n 2, 1) := by decide +kernel
theorem dJx4a65c_clear_da8c8_29 : decode cJx4a65c_clear_da8c8 29 = .ok (.if_icmp .ge 13, 3) := by decide +kernel
theorem dJx4a65c_clear_da8c8_32 : decode cJx4a65c_clear_da8c8 32 = .ok (.aload_n 1, 1) := by decide +kernel
theorem dJx4a65c_clear_da8c8_33 : decode cJx4a65c_clear_da8c8 33 = .ok (.iload_n 3, 1) := by decide +kernel
theorem dJx4a65c_clear_da8c8_34 : decode cJx4a65c_clear_da8c8 34 = .ok (.aconst_null, 1) := by decide +kernel
theorem dJx4a65c_clear_da8c8_35 : decode cJx4a65c_clear_da8c8 35 = .ok (.aastore, 1) := by decide +kernel
theorem dJx4a65c_clear_da8c8_36 : decode cJx4a65c_clear_da8c8 36 = .ok (.iinc 3 1, 3) := by decide +kernel
theorem dJx4a65c_clear_da8c8_39 : decode cJx4a65c_clear_da8c8 39 = .ok (.goto (-12), 3) := by decide +kernel
theorem dJx4a65c_clear_da8c8_42 : decode cJx4a65c_clear_da8c8 42 = .ok (.return_, 1) := by decide +kernel
theorem dJ7_copyOf_1904c_0 : decode cJ7_copyOf_1904c 0 = .ok (.aload_n 0, 1) := by decide +kernel
theorem dJ7_copyOf_1904c_1 : decode cJ7_copyOf_1904c 1 = .ok (.iload_n 1, 1) := by decide +kernel
theorem dJ7_copyOf_1904c_2 : decode cJ7_copyOf_1904c 2 = .ok (.aload_n 0, 1) := by decide +kernel
theorem dJ7_copyOf_1904c_3 : decode cJ7_copyOf_1904c 3 = .ok (.invokevirtual 86, 3) := by decide +kernel
theorem dJ7_copyOf_1904c_6 : decode cJ7_copyOf_1904c 6 = .ok (.invokestatic 300, 3) := by decide +kernel
theorem dJ7_copyOf_1904c_9 : decode cJ7_copyOf_1904c 9 = .ok (.areturn, 1) := by decide +kernel
theorem dJ7_copyOf_6403c_0 : decode cJ7_copyOf_6403c 0 = .ok (.aload_n 2, 1) := by decide +kernel
theorem dJ7_copyOf_6403c_1 : decode cJ7_copyOf_6403c 1 = .ok (.ldc 110, 2) := by decide +kernel
theorem dJ7_copyOf_6403c_3 : decode cJ7_copyOf_6403c 3 = .ok (.if_acmp .ne 10, 3) := by decide +kernel
theorem dJ7_copyOf_6403c_6 : decode cJ7_copyOf_6403c 6 = .ok (.iload_n 1, 1) := by decide +kernel
theorem dJ7_copyOf_6403c_7 : decode cJ7_copyOf_6403c 7 = .ok (.anewarray 2, 3) := by decide +kernel
theorem dJ7_copyOf_6403c_10 : decode cJ7_copyOf_6403c 10 = .ok (.goto 14, 3) := by decide +kernel
theorem dJ7_copyOf_6403c_13 : decode cJ7_copyOf_6403c 13 = .ok (.aload_n 2, 1) := by decide +kernel
theorem dJ7_copyOf_6403c_14 : decode cJ7_copyOf_6403c 14 = .ok (.invokevirtual 90, 3) := by decide +kernel
theorem dJ7_copyOf_6403c_17 : decode cJ7_copyOf_6403c 17 = .ok (.iload_n 1, 1) := by decide +kernel
theorem dJ7_copyOf_6403c_18 : decode cJ7_copyOf_6403c 18 = .ok (.invokestatic 95, 3) := by decide +kernel
theorem dJ7_copyOf_6403c_21 : decode cJ7_copyOf_6403c 21 = .ok (.checkcast 110, 3) := by decide +kernel
theorem dJ7_copyOf_6403c_24 : decode cJ7_copyOf_6403c 24 = .ok (.astore_n 3, 1) := by decide +kernel
theorem dJ7_copyOf_6403c_25 : decode cJ7_copyOf_6403c 25 = .ok (.aload_n 0, 1) := by decide +kernel
theorem dJ7_copyOf_6403c_26 : decode cJ7_copyOf_6403c 26 = .ok (.iconst 0, 1) := by decide +kernel
theorem dJ7_copyOf_6403c_27 : decode cJ7_copyOf_6403c 27 = .ok (.aload_n 3, 1) := by decide +kernel
theorem dJ7_copyOf_6403c_28 : decode cJ7_copyOf_6403c 28 = .ok (.iconst 0, 1) := by decide +kernel
theorem dJ7_copyOf_6403c_29 : decode cJ7_copyOf_6403c 29 = .ok (.aload_n 0, 1) := by decide +kernel
theorem dJ7_copyOf_6403c_30 : decode cJ7_copyOf_6403c 30 = .ok (.arraylength, 1) := by decide +kernel
theorem dJ7_copyOf_6403c_31 : decode cJ7_copyOf_6403c 31 = .ok (.iload_n 1, 1) := by decide +kernel
theorem dJ7_copyOf_6403c_32 : decode cJ7_copyOf_6403c 32 = .ok (.invokestatic 304, 3) := by decide +kernel
theorem dJ7_copyOf_6403c_35 : decode cJ7_copyOf_6403c 35 = .ok (.invokestatic 150, 3) := by decide +kernel
theorem dJ7_copyOf_6403c_38 : decode cJ7_copyOf_6403c 38 = .ok (.aload_n 3, 1) := by decide +kernel
theorem dJ7_copyOf_6403c_39 : decode cJ7_copyOf_6403c 39 = .ok (.areturn, 1) := by decide +kernel
theorem dJ15_checkIndex_7cf53_0 : decode cJ15_checkIndex_7cf53 0 = .ok (.iload_n 0, 1) := by decide +kernel
theorem dJ15_checkIndex_7cf53_1 : decode cJ15_checkIndex_7cf53 1 = .ok (.iload_n 1, 1) := by decide +kernel
theorem dJ15_checkIndex_7cf53_2 : decode cJ15_checkIndex_7cf53 2 = .ok (.aconst_null, 1) := by decide +kernel
theorem dJ15_checkIndex_7cf53_3 : decode cJ15_checkIndex_7cf53 3 = .ok (.invokestatic 105, 3) := by decide +kernel
theorem dJ15_checkIndex_7cf53_6 : decode cJ15_checkIndex_7cf53 6 = .ok (.ireturn, 1) := by decide +kernel
theorem dJ8_newLength_cabcc_0 : decode cJ8_newLength_cabcc 0 = .ok (.iload_n 0, 1) := by decide +kernel
theorem dJ8_newLength_cabcc_1 : decode cJ8_newLength_cabcc 1 = .ok (.iload_n 1, 1) := by decide +kernel
theorem dJ8_newLength_cabcc_2 : decode cJ8_newLength_cabcc 2 = .ok (.iload_n 2, 1) := by decide +kernel
theorem dJ8_newLength_cabcc_3 : decode cJ8_newLength_cabcc 3 = .ok (.invokestatic 194, 3) := by decide +kernel
theorem dJ8_newLength_cabcc_6 : decode cJ8_newLength_cabcc 6 = .ok (.iadd, 1) := by decide +kernel
theorem dJ8_newLength_cabcc_7 : decode cJ8_newLength_cabcc 7 = .ok (.istore_n 3, 1) := by decide +kernel
theorem dJ8_newLength_cabcc_8 : decode cJ8_newLength_cabcc 8 = .ok (.iconst 0, 1) := by decide +kernel
theorem dJ8_newLength_cabcc_9 : decode cJ8_newLength_cabcc 9 = .ok (.iload_n 3, 1) := by decide +kernel
theorem dJ8_newLength_cabcc_10 : decode cJ8_newLength_cabcc 10 = .ok (.if_icmp .ge 11, 3) := by decide +kernel
theorem dJ8_newLength_cabcc_13 : decode cJ8_newLength_cabcc 13 = .ok (.iload_n 3, 1) := by decide +kernel
theorem dJ8_newLength_cabcc_14 : decode cJ8_newLength_cabcc 14 = .ok (.ldc 200, 2) := by decide +kernel
theorem dJ8_newLength_cabcc_16 : decode cJ8_newLength_cabcc 16 = .ok (.if_icmp .gt 5, 3) := by decide +kernel
theorem dJ8_newLength_cabcc_19 : decode cJ8_newLength_cabcc 19 = .ok (.iload_n 3, 1) := by decide +kernel
theorem dJ8_newLength_cabcc_20 : decode cJ8_newLength_cabcc 20 = .ok (.ireturn, 1) := by decide +kernel
theorem dJ8_newLength_cabcc_21 : decode cJ8_newLength_cabcc 21 = .ok (.iload_n 0, 1) := by decide +kernel
theorem dJ8_newLength_cabcc_22 : decode cJ8_newLength_cabcc 22 = .ok (.iload_n 1, 1) := by decide +kernel
theorem dJ8_newLength_cabcc_23 : decode cJ8_newLength_cabcc 23 = .ok (.invokestatic 201, 3) := by decide +kernel
theorem dJ8_newLength_cabcc_26 : decode cJ8_newLength_cabcc 26 = .ok (.ireturn, 1) := by decide +kernel
theorem dJ8_hugeLength_7cf53_0 : decode cJ8_hugeLength_7cf53 0 = .ok (.iload_n 0, 1) := by decide +kernel
theorem dJ8_hugeLength_7cf53_1 : decode cJ8_hugeLength_7cf53 1 = .ok (.iload_n 1, 1) := by decide +kernel
theorem dJ8_hugeLength_7cf53_2 : decode cJ8_hugeLength_7cf53 2 = .ok (.iadd, 1) := by decide +kernel
theorem dJ8_hugeLength_7cf53_3 : decode cJ8_hugeLength_7cf53 3 = .ok (.istore_n 2, 1) := by decide +kernel
theorem dJ8_hugeLength_7cf53_4 : decode cJ8_hugeLength_7cf53 4 = .ok (.iload_n 2, 1) := by decide +kernel
theorem dJ8_hugeLength_7cf53_5 : decode cJ8_hugeLength_7cf53 5 = .ok (.ifCond .ge 44, 3) := by decide +kernel
theorem dJ8_hugeLength_7cf53_8 : decode cJ8_hugeLength_7cf53 8 = .ok (.new 204, 3) := by decide +kernel
theorem dJ8_hugeLength_7cf53_11 : decode cJ8_hugeLength_7cf53 11 = .ok (.dup, 1) := by decide +kernel
theorem dJ8_hugeLength_7cf53_12 : decode cJ8_hugeLength_7cf53 12 = .ok (.new 89, 3) := by decide +kernel
theorem dJ8_hugeLength_7cf53_15 : decode cJ8_hugeLength_7cf53 15 = .ok (.dup, 1) := by decide +kernel
theorem dJ8_hugeLength_7cf53_16 : decode cJ8_hugeLength_7cf53 16 = .ok (.invokespecial 91, 3) := by decide +kernel
theorem dJ8_hugeLength_7cf53_19 : decode cJ8_hugeLength_7cf53 19 = .ok (.ldc 206, 2) := by decide +kernel
theorem dJ8_hugeLength_7cf53_21 : decode cJ8_hugeLength_7cf53 21 = .ok (.invokevirtual 94, 3) := by decide +kernel
theorem dJ8_hugeLength_7cf53_24 : decode cJ8_hugeLength_7cf53 24 = .ok (.iload_n 0, 1) := by decide +kernel
theorem dJ8_hugeLength_7cf53_25 : decode cJ8_hugeLength_7cf53 25 = .ok (.invokevirtual 98, 3) := by decide +kernel
theorem dJ8_hugeLength_7cf53_28 : decode cJ8_hugeLength_7cf53 28 = .ok (.ldc 208, 2) := by decide +kernel
theorem dJ8_hugeLength_7cf53_30 : decode cJ8_hugeLength_7cf53 30 = .ok (.invokevirtual 94, 3) := by decide +kernel
theorem dJ8_hugeLength_7cf53_33 : decode cJ8_hugeLength_7cf53 33 = .ok (.iload_n 1, 1) := by decide +kernel
theorem dJ8_hugeLength_7cf53_34 : decode cJ8_hugeLength_7cf53 34 = .ok (.invokevirtual 98, 3) := by decide +kernel
theorem dJ8_hugeLength_7cf53_37 : decode cJ8_hugeLength_7cf53 37 = .ok (.ldc 210, 2) := by decide +kernel
theorem dJ8_hugeLength_7cf53_39 : decode cJ8_hugeLength_7cf53 39 = .ok (.invokevirtual 94, 3) := by decide +kernel
theorem dJ8_hugeLength_7cf53_42 : decode cJ8_hugeLength_7cf53 42 = .ok (.invokevirtual 101, 3) := by decide +kernel
theorem dJ8_hugeLength_7cf53_45 : decode cJ8_hugeLength_7cf53 45 = .ok (.invokespecial 212, 3) := by decide +kernel
theorem dJ8_hugeLength_7cf53_48 : decode cJ8_hugeLength_7cf53 48 = .ok (.athrow, 1) := by decide +kernel
theorem dJ8_hugeLength_7cf53_49 : decode cJ8_hugeLength_7cf53 49 = .ok (.iload_n 2, 1) := by decide +kernel
theorem dJ8_hugeLength_7cf53_50 : decode cJ8_hugeLength_7cf53 50 = .ok (.ldc 200, 2) := by decide +kernel
theorem dJ8_hugeLength_7cf53_52 : decode cJ8_hugeLength_7cf53 52 = .ok (.if_icmp .gt 6, 3) := by decide +kernel
theorem dJ8_hugeLength_7cf53_55 : decode cJ8_hugeLength_7cf53 55 = .ok (.ldc 200, 2) := by decide +kernel
theorem dJ8_hugeLength_7cf53_57 : decode cJ8_hugeLength_7cf53 57 = .ok (.ireturn, 1) := by decide +kernel
theorem dJ8_hugeLength_7cf53_58 : decode cJ8_hugeLength_7cf53 58 = .ok (.iload_n 2, 1) := by decide +kernel
theorem dJ8_hugeLength_7cf53_59 : decode cJ8_hugeLength_7cf53 59 = .ok (.ireturn, 1) := by decide +kernel
theorem dJ3_checkIndex_8e157_0 : decode cJ3_checkIndex_8e157 0 = .ok (.iload_n 0, 1) := by decide +kernel
theorem dJ3_checkIndex_8e157_1 : decode cJ3_checkIndex_8e157 1 = .ok (.ifCond .lt 8, 3) := by decide +kernel
theorem dJ3_checkIndex_8e157_4 : decode cJ3_checkIndex_8e157 4 = .ok (.iload_n 0, 1) := by decide +kernel
theorem dJ3_checkIndex_8e157_5 : decode cJ3_checkIndex_8e157 5 = .ok (.iload_n 1, 1) := by decide +kernel
theorem dJ3_checkIndex_8e157_6 : decode cJ3_checkIndex_8e157 6 = .ok (.if_icmp .lt 10, 3) := by decide +kernel
theorem dJ3_checkIndex_8e157_9 : decode cJ3_checkIndex_8e157 9 = .ok (.aload_n 2, 1) := by decide +kernel
theorem dJ3_checkIndex_8e157_10 : decode cJ3_checkIndex_8e157 10 = .ok (.iload_n 0, 1) := by decide +kernel
theorem dJ3_checkIndex_8e157_11 : decode cJ3_checkIndex_8e157 11 = .ok (.iload_n 1, 1) := by decide +kernel
theorem dJ3_checkIndex_8e157_12 : decode cJ3_checkIndex_8e157 12 = .ok (.invokestatic 95, 3) := by decide +kernel
theorem dJ3_checkIndex_8e157_15 : decode cJ3_checkIndex_8e157 15 = .ok (.athrow, 1) := by decide +kernel
theorem dJ3_checkIndex_8e157_16 : decode cJ3_checkIndex_8e157 16 = .ok (.iload_n 0, 1) := by decide +kernel
theorem dJ3_checkIndex_8e157_17 : decode cJ3_checkIndex_8e157 17 = .ok (.ireturn, 1) := by decide +kernel
theorem dL_cell_0 : decode cL_cell 0 = .ok (.iload_n 1, 1) := by decide +kernel
theorem dL_cell_1 : decode cL_cell 1 = .ok (.aload_n 0, 1) := by decide +kernel
theorem dL_cell_2 : decode cL_cell 2 = .ok (.arraylength, 1) := by decide +kernel
theorem dL_cell_3 : decode cL_cell 3 = .ok (.if_icmp .ge 9, 3) := by decide +kernel
theorem dL_cell_6 : decode cL_cell 6 = .ok (.aload_n 0, 1) := by decide +kernel
theorem dL_cell_7 : decode cL_cell 7 = .ok (.iload_n 1, 1) := by decide +kernel
theorem dL_cell_8 : decode cL_cell 8 = .ok (.iaload, 1) := by decide +kernel
theorem dL_cell_9 : decode cL_cell 9 = .ok (.goto 18, 3) := by decide +kernel
theorem dL_cell_12 : decode cL_cell 12 = .ok (.sipush 7919, 3) := by decide +kernel
theorem dL_cell_15 : decode cL_cell 15 = .ok (.iload_n 1, 1) := by decide +kernel
theorem dL_cell_16 : decode cL_cell 16 = .ok (.sipush 643, 3) := by decide +kernel
theorem dL_cell_19 : decode cL_cell 19 = .ok (.iadd, 1) := by decide +kernel
theorem dL_cell_20 : decode cL_cell 20 = .ok (.imul, 1) := by decide +kernel
theorem dL_cell_21 : decode cL_cell 21 = .ok (.iload_n 1, 1) := by decide +kernel
theorem dL_cell_22 : decode cL_cell 22 = .ok (.sipush 2999, 3) := by decide +kernel
theorem dL_cell_25 : decode cL_cell 25 = .ok (.iadd, 1) := by decide +kernel
theorem dL_cell_26 : decode cL_cell 26 = .ok (.imul, 1) := by decide +kernel
theorem dL_cell_27 : decode cL_cell 27 = .ok (.ireturn, 1) := by decide +kernel
theorem dL_low_0 : decode cL_low 0 = .ok (.iload_n 0, 1) := by decide +kernel
theorem dL_low_1 : decode cL_low 1 = .ok (.ldc 7, 2) := by decide +kernel
theorem dL_low_3 : decode cL_low 3 = .ok (.iand, 1) := by decide +kernel
theorem dL_low_4 : decode cL_low 4 = .ok (.iload_n 1, 1) := by decide +kernel
theorem dL_low_5 : decode cL_low 5 = .ok (.irem, 1) := by decide +kernel
theorem dL_low_6 : decode cL_low 6 = .ok (.ireturn, 1) := by decide +kernel
theorem dL_field_0 : decode cL_field 0 = .ok (.aload_n 0, 1) := by decide +kernel
theorem dL_field_1 : decode cL_field 1 = .ok (.iload_n 1, 1) := by decide +kernel
theorem dL_field_2 : decode cL_field 2 = .ok (.iload_n 2, 1) := by decide +kernel
theorem dL_field_3 : decode cL_field 3 = .ok (.iload_n 3, 1) := by decide +kernel
theorem dL_field_4 : decode cL_field 4 = .ok (.iload 4, 2) := by decide +kernel
theorem dL_field_6 : decode cL_field 6 = .ok (.invokevirtual 8, 3) := by decide +kernel
theorem dL_field_9 : decode cL_field 9 = .ok (.ireturn, 1) := by decide +kernel
theorem dL_field_10 : decode cL_field 10 = .ok (.astore 5, 2) := by decide +kernel
theorem dL_field_12 : decode cL_field 12 = .ok (.ldc 16, 2) := by decide +kernel
theorem dL_field_14 : decode cL_field 14 = .ok (.ireturn, 1) := by decide +kernel
theorem dL_field_15 : decode cL_field 15 = .ok (.astore 5, 2) := by decide +kernel
theorem dL_field_17 : decode cL_field 17 = .ok (.ldc 16, 2) := by decide +kernel
theorem dL_field_19 : decode cL_field 19 = .ok (.ireturn, 1) := by decide +kernel
theorem dL_field_20 : decode cL_field 20 = .ok (.astore 5, 2) := by decide +kernel
theorem dL_field_22 : decode cL_field 22 = .ok (.ldc 16, 2) := by decide +kernel
theorem dL_field_24 : decode cL_field 24 = .ok (.ireturn, 1) := by decide +kernel
theorem dL_does_0 : decode cL_does 0 = .ok (.iload_n 1, 1) := by decide +kernel
theorem dL_does_1 : decode cL_does 1 = .ok (.ifCond .ne 11, 3) := by decide +kernel
theorem dL_does_4 : decode cL_does 4 = .ok (.aload_n 0, 1) := by decide +kernel
theorem dL_does_5 : decode cL_does 5 = .ok (.iload_n 2, 1) := by decide +kernel
theorem dL_does_6 : decode cL_does 6 = .ok (.invokevirtual 21, 3) := by decide +kernel
theorem dL_does_9 : decode cL_does 9 = .ok (.goto 159, 3) := by decide +kernel
theorem dL_does_12 : decode cL_does 12 = .ok (.iload_n 1, 1) := by decide +kernel
theorem dL_does_13 : decode cL_does 13 = .ok (.iconst 1, 1) := by decide +kernel
theorem dL_does_14 : decode cL_does 14 = .ok (.if_icmp .ne 19, 3) := by decide +kernel
theorem dL_does_17 : decode cL_does 17 = .ok (.aload_n 0, 1) := by decide +kernel
theorem dL_does_18 : decode cL_does 18 = .ok (.iload_n 2, 1) := by decide +kernel
theorem dL_does_19 : decode cL_does 19 = .ok (.invokevirtual 25, 3) := by decide +kernel
theorem dL_does_22 : decode cL_does 22 = .ok (.ifCond .eq 7, 3) := by decide +kernel
theorem dL_does_25 : decode cL_does 25 = .ok (.iconst 1, 1) := by decide +kernel
theorem dL_does_26 : decode cL_does 26 = .ok (.goto 142, 3) := by decide +kernel
theorem dL_does_29 : decode cL_does 29 = .ok (.iconst 0, 1) := by decide +kernel
theorem dL_does_30 : decode cL_does 30 = .ok (.goto 138, 3) := by decide +kernel
theorem dL_does_33 : decode cL_does 33 = .ok (.iload_n 1, 1) := by decide +kernel
theorem dL_does_34 : decode cL_does 34 = .ok (.iconst 2, 1) := by decide +kernel
theorem dL_does_35 : decode cL_does 35 = .ok (.if_icmp .ne 11, 3) := by decide +kernel
theorem dL_does_38 : decode cL_does 38 = .ok (.aload_n 0, 1) := by decide +kernel
theorem dL_does_39 : decode cL_does 39 = .ok (.iload_n 2, 1) := by decide +kernel
theorem dL_does_40 : decode cL_does 40 = .ok (.invokevirtual 29, 3) := by decide +kernel
theorem dL_does_43 : decode cL_does 43 = .ok (.goto 125, 3) := by decide +kernel
theorem dL_does_46 : decode cL_does 46 = .ok (.iload_n 1, 1) := by decide +kernel
theorem dL_does_47 : decode cL_does 47 = .ok (.iconst 5, 1) := by decide +kernel
theorem dL_does_48 : decode cL_does 48 = .ok (.if_icmp .ge 22, 3) := by decide +kernel
theorem dL_does_51 : decode cL_does 51 = .ok (.aload_n 0, 1) := by decide +kernel
theorem dL_does_52 : decode cL_does 52 = .ok (.iload_n 2, 1) := by decide +kernel
theorem dL_does_53 : decode cL_does 53 = .ok (.iload_n 3, 1) := by decide +kernel
theorem dL_does_54 : decode cL_does 54 = .ok (.iload_n 1, 1) := by decide +kernel
theorem dL_does_55 : decode cL_does 55 = .ok (.iconst 4, 1) := by decide +kernel
theorem dL_does_56 : decode cL_does 56 = .ok (.if_icmp .ne 7, 3) := by decide +kernel
theorem dL_does_59 : decode cL_does 59 = .ok (.iconst 1, 1) := by decide +kernel
theorem dL_does_60 : decode cL_does 60 = .ok (.goto 4, 3) := by decide +kernel
theorem dL_does_63 : decode cL_does 63 = .ok (.iconst 0, 1) := by decide +kernel
theorem dL_does_64 : decode cL_does 64 = .ok (.invokevirtual 32, 3) := by decide +kernel
theorem dL_does_67 : decode cL_does 67 = .ok (.goto 101, 3) := by decide +kernel
theorem dL_does_70 : decode cL_does 70 = .ok (.iload_n 1, 1) := by decide +kernel
theorem dL_does_71 : decode cL_does 71 = .ok (.bipush 7, 2) := by decide +kernel
theorem dL_does_73 : decode cL_does 73 = .ok (.if_icmp .ge 23, 3) := by decide +kernel
theorem dL_does_76 : decode cL_does 76 = .ok (.aload_n 0, 1) := by decide +kernel
theorem dL_does_77 : decode cL_does 77 = .ok (.iload_n 2, 1) := by decide +kernel
theorem dL_does_78 : decode cL_does 78 = .ok (.iload_n 3, 1) := by decide +kernel
theorem dL_does_79 : decode cL_does 79 = .ok (.iload_n 1, 1) := by decide +kernel
theorem dL_does_80 : decode cL_does 80 = .ok (.bipush 6, 2) := by decide +kernel
theorem dL_does_82 : decode cL_does 82 = .ok (.if_icmp .ne 7, 3) := by decide +kernel
theorem dL_does_85 : decode cL_does 85 = .ok (.iconst 1, 1) := by decide +kernel
theorem dL_does_86 : decode cL_does 86 = .ok (.goto 4, 3) := by decide +kernel
theorem dL_does_89 : decode cL_does 89 = .ok (.iconst 0, 1) := by decide +kernel
theorem dL_does_90 : decode cL_does 90 = .ok (.invokevirtual 36, 3) := by decide +kernel
theorem dL_does_93 : decode cL_does 93 = .ok (.goto 75, 3) := by decide +kernel
theorem dL_does_96 : decode cL_does 96 = .ok (.iload_n 1, 1) := by decide +kernel
theorem dL_does_97 : decode cL_does 97 = .ok (.bipush 7, 2) := by decide +kernel
theorem dL_does_99 : decode cL_does 99 = .ok (.if_icmp .ne 12, 3) := by decide +kernel
theorem dL_does_102 : decode cL_does 102 = .ok (.aload_n 0, 1) := by decide +kernel
theorem dL_does_103 : decode cL_does 103 = .ok (.iload_n 2, 1) := by decide +kernel
theorem dL_does_104 : decode cL_does 104 = .ok (.iload_n 3, 1) := by decide +kernel
theorem dL_does_105 : decode cL_does 105 = .ok (.invokevirtual 39, 3) := by decide +kernel
theorem dL_does_108 : decode cL_does 108 = .ok (.goto 60, 3) := by decide +kernel
theorem dL_does_111 : decode cL_does 111 = .ok (.iload_n 1, 1) := by decide +kernel
theorem dL_does_112 : decode cL_does 112 = .ok (.bipush 8, 2) := by decide +kernel
theorem dL_does_114 : decode cL_does 114 = .ok (.if_icmp .ne 12, 3) := by decide +kernel
theorem dL_does_117 : decode cL_does 117 = .ok (.aload_n 0, 1) := by decide +kernel
theorem dL_does_118 : decode cL_does 118 = .ok (.iload_n 2, 1) := by decide +kernel
theorem dL_does_119 : decode cL_does 119 = .ok (.iload_n 3, 1) := by decide +kernel
theorem dL_does_120 : decode cL_does 120 = .ok (.invokevirtual 43, 3) := by decide +kernel
theorem dL_does_123 : decode cL_does 123 = .ok (.goto 45, 3) := by decide +kernel
theorem dL_does_126 : decode cL_does 126 = .ok (.iload_n 1, 1) := by decide +kernel
theorem dL_does_127 : decode cL_does 127 = .ok (.bipush 9, 2) := by decide +kernel
theorem dL_does_129 : decode cL_does 129 = .ok (.if_icmp .ne 11, 3) := by decide +kernel
theorem dL_does_132 : decode cL_does 132 = .ok (.aload_n 0, 1) := by decide +kernel
theorem dL_does_133 : decode cL_does 133 = .ok (.iload_n 2, 1) := by decide +kernel
theorem dL_does_134 : decode cL_does 134 = .ok (.invokevirtual 46, 3) := by decide +kernel
theorem dL_does_137 : decode cL_does 137 = .ok (.goto 31, 3) := by decide +kernel
theorem dL_does_140 : decode cL_does 140 = .ok (.iload_n 1, 1) := by decide +kernel
theorem dL_does_141 : decode cL_does 141 = .ok (.bipush 10, 2) := by decide +kernel
theorem dL_does_143 : decode cL_does 143 = .ok (.if_icmp .ne 20, 3) := by decide +kernel
theorem dL_does_146 : decode cL_does 146 = .ok (.aload_n 0, 1) := by decide +kernel
theorem dL_does_147 : decode cL_does 147 = .ok (.iload_n 2, 1) := by decide +kernel
theorem dL_does_148 : decode cL_does 148 = .ok (.iload_n 3, 1) := by decide +kernel
theorem dL_does_149 : decode cL_does 149 = .ok (.invokevirtual 49, 3) := by decide +kernel
theorem dL_does_152 : decode cL_does 152 = .ok (.ifCond .eq 7, 3) := by decide +kernel
theorem dL_does_155 : decode cL_does 155 = .ok (.iconst 1, 1) := by decide +kernel
theorem dL_does_156 : decode cL_does 156 = .ok (.goto 12, 3) := by decide +kernel
theorem dL_does_159 : decode cL_does 159 = .ok (.iconst 0, 1) := by decide +kernel
theorem dL_does_160 : decode cL_does 160 = .ok (.goto 8, 3) := by decide +kernel
theorem dL_does_163 : decode cL_does 163 = .ok (.aload_n 0, 1) := by decide +kernel
theorem dL_does_164 : decode cL_does 164 = .ok (.iload_n 2, 1) := by decide +kernel
theorem dL_does_165 : decode cL_does 165 = .ok (.invokevirtual 53, 3) := by decide +kernel
theorem dL_does_168 : decode cL_does 168 = .ok (.ireturn, 1) := by decide +kernel
theorem dL_does_169 : decode cL_does 169 = .ok (.astore 4, 2) := by decide +kernel
theorem dL_does_171 : decode cL_does 171 = .ok (.ldc 16, 2) := by decide +kernel
theorem dL_does_173 : decode cL_does 173 = .ok (.ireturn, 1) := by decide +kernel
theorem dL_does_174 : decode cL_does 174 = .ok (.astore 4, 2) := by decide +kernel
theorem dL_does_176 : decode cL_does 176 = .ok (.ldc 16, 2) := by decide +kernel
theorem dL_does_178 : decode cL_does 178 = .ok (.ireturn, 1) := by decide +kernel
theorem dL_does_179 : decode cL_does 179 = .ok (.astore 4, 2) := by decide +kernel
theorem dL_does_181 : decode cL_does 181 = .ok (.ldc 16, 2) := by decide +kernel
theorem dL_does_183 : decode cL_does 183 = .ok (.ireturn, 1) := by decide +kernel
theorem dL_reads_0 : decode cL_reads 0 = .ok (.iload_n 1, 1) := by decide +kernel
theorem dL_reads_1 : decode cL_reads 1 = .ok (.ifCond .ne 34, 3) := by decide +kernel
theorem dL_reads_4 : decode cL_reads 4 = .ok (.aload_n 0, 1) := by decide +kernel
theorem dL_reads_5 : decode cL_reads 5 = .ok (.iload_n 2, 1) := by decide +kernel
theorem dL_reads_6 : decode cL_reads 6 = .ok (.bipush 6, 2) := by decide +kernel
theorem dL_reads_8 : decode cL_reads 8 = .ok (.idiv, 1) := by decide +kernel
theorem dL_reads_9 : decode cL_reads 9 = .ok (.iload_n 2, 1) := by decide +kernel
theorem dL_reads_10 : decode cL_reads 10 = .ok (.bipush 6, 2) := by decide +kernel
theorem dL_reads_12 : decode cL_reads 12 = .ok (.irem, 1) := by decide +kernel
theorem dL_reads_13 : decode cL_reads 13 = .ok (.iload_n 3, 1) := by decide +kernel
theorem dL_reads_14 : decode cL_reads 14 = .ok (.bipush 6, 2) := by decide +kernel
theorem dL_reads_16 : decode cL_reads 16 = .ok (.idiv, 1) := by decide +kernel
theorem dL_reads_17 : decode cL_reads 17 = .ok (.iload_n 3, 1) := by decide +kernel
theorem dL_reads_18 : decode cL_reads 18 = .ok (.bipush 6, 2) := by decide +kernel
theorem dL_reads_20 : decode cL_reads 20 = .ok (.irem, 1) := by decide +kernel
theorem dL_reads_21 : decode cL_reads 21 = .ok (.invokevirtual 56, 3) := by decide +kernel
theorem dL_reads_24 : decode cL_reads 24 = .ok (.ifCond .eq 7, 3) := by decide +kernel
theorem dL_reads_27 : decode cL_reads 27 = .ok (.iconst 1, 1) := by decide +kernel
theorem dL_reads_28 : decode cL_reads 28 = .ok (.goto 63, 3) := by decide +kernel
theorem dL_reads_31 : decode cL_reads 31 = .ok (.iconst 0, 1) := by decide +kernel
theorem dL_reads_32 : decode cL_reads 32 = .ok (.goto 59, 3) := by decide +kernel
theorem dL_reads_35 : decode cL_reads 35 = .ok (.iload_n 1, 1) := by decide +kernel
theorem dL_reads_36 : decode cL_reads 36 = .ok (.iconst 1, 1) := by decide +kernel
theorem dL_reads_37 : decode cL_reads 37 = .ok (.if_icmp .ne 34, 3) := by decide +kernel
theorem dL_reads_40 : decode cL_reads 40 = .ok (.aload_n 0, 1) := by decide +kernel
theorem dL_reads_41 : decode cL_reads 41 = .ok (.iload_n 2, 1) := by decide +kernel
theorem dL_reads_42 : decode cL_reads 42 = .ok (.bipush 6, 2) := by decide +kernel
theorem dL_reads_44 : decode cL_reads 44 = .ok (.idiv, 1) := by decide +kernel
theorem dL_reads_45 : decode cL_reads 45 = .ok (.iload_n 2, 1) := by decide +kernel
theorem dL_reads_46 : decode cL_reads 46 = .ok (.bipush 6, 2) := by decide +kernel
theorem dL_reads_48 : decode cL_reads 48 = .ok (.irem, 1) := by decide +kernel
theorem dL_reads_49 : decode cL_reads 49 = .ok (.iload_n 3, 1) := by decide +kernel
theorem dL_reads_50 : decode cL_reads 50 = .ok (.bipush 6, 2) := by decide +kernel
theorem dL_reads_52 : decode cL_reads 52 = .ok (.idiv, 1) := by decide +kernel
theorem dL_reads_53 : decode cL_reads 53 = .ok (.iload_n 3, 1) := by decide +kernel
theorem dL_reads_54 : decode cL_reads 54 = .ok (.bipush 6, 2) := by decide +kernel
theorem dL_reads_56 : decode cL_reads 56 = .ok (.irem, 1) := by decide +kernel
theorem dL_reads_57 : decode cL_reads 57 = .ok (.invokevirtual 60, 3) := by decide +kernel
theorem dL_reads_60 : decode cL_reads 60 = .ok (.ifCond .eq 7, 3) := by decide +kernel
theorem dL_reads_63 : decode cL_reads 63 = .ok (.iconst 1, 1) := by decide +kernel
theorem dL_reads_64 : decode cL_reads 64 = .ok (.goto 27, 3) := by decide +kernel
theorem dL_reads_67 : decode cL_reads 67 = .ok (.iconst 0, 1) := by decide +kernel
theorem dL_reads_68 : decode cL_reads 68 = .ok (.goto 23, 3) := by decide +kernel
theorem dL_reads_71 : decode cL_reads 71 = .ok (.aload_n 0, 1) := by decide +kernel
theorem dL_reads_72 : decode cL_reads 72 = .ok (.iload_n 2, 1) := by decide +kernel
theorem dL_reads_73 : decode cL_reads 73 = .ok (.bipush 6, 2) := by decide +kernel
theorem dL_reads_75 : decode cL_reads 75 = .ok (.idiv, 1) := by decide +kernel
theorem dL_reads_76 : decode cL_reads 76 = .ok (.iload_n 2, 1) := by decide +kernel
theorem dL_reads_77 : decode cL_reads 77 = .ok (.bipush 6, 2) := by decide +kernel
theorem dL_reads_79 : decode cL_reads 79 = .ok (.irem, 1) := by decide +kernel
theorem dL_reads_80 : decode cL_reads 80 = .ok (.iload_n 3, 1) := by decide +kernel
theorem dL_reads_81 : decode cL_reads 81 = .ok (.bipush 6, 2) := by decide +kernel
theorem dL_reads_83 : decode cL_reads 83 = .ok (.idiv, 1) := by decide +kernel
theorem dL_reads_84 : decode cL_reads 84 = .ok (.iload_n 3, 1) := by decide +kernel
theorem dL_reads_85 : decode cL_reads 85 = .ok (.bipush 6, 2) := by decide +kernel
theorem dL_reads_87 : decode cL_reads 87 = .ok (.irem, 1) := by decide +kernel
theorem dL_reads_88 : decode cL_reads 88 = .ok (.invokevirtual 63, 3) := by decide +kernel
theorem dL_reads_91 : decode cL_reads 91 = .ok (.ireturn, 1) := by decide +kernel
theorem dL_reads_92 : decode cL_reads 92 = .ok (.astore 4, 2) := by decide +kernel
theorem dL_reads_94 : decode cL_reads 94 = .ok (.ldc 16, 2) := by decide +kernel
theorem dL_reads_96 : decode cL_reads 96 = .ok (.ireturn, 1) := by decide +kernel
theorem dL_reads_97 : decode cL_reads 97 = .ok (.astore 4, 2) := by decide +kernel
theorem dL_reads_99 : decode cL_reads 99 = .ok (.ldc 16, 2) := by decide +kernel
theorem dL_reads_101 : decode cL_reads 101 = .ok (.ireturn, 1) := by decide +kernel
theorem dL_reads_102 : decode cL_reads 102 = .ok (.astore 4, 2) := by decide +kernel
theorem dL_reads_104 : decode cL_reads 104 = .ok (.ldc 16, 2) := by decide +kernel
theorem dL_reads_106 : decode cL_reads 106 = .ok (.ireturn, 1) := by decide +kernel
theorem dL_act_0 : decode cL_act 0 = .ok (.iload_n 1, 1) := by decide +kernel
theorem dL_act_1 : decode cL_act 1 = .ok (.bipush 24, 2) := by decide +kernel
theorem dL_act_3 : decode cL_act 3 = .ok (.ishr, 1) := by decide +kernel
theorem dL_act_4 : decode cL_act 4 = .ok (.bipush 8, 2) := by decide +kernel
theorem dL_act_6 : decode cL_act 6 = .ok (.invokestatic 66, 3) := by decide +kernel
theorem dL_act_9 : decode cL_act 9 = .ok (.ifCond .ne 7, 3) := by decide +kernel
theorem dL_act_12 : decode cL_act 12 = .ok (.iconst 1, 1) := by decide +kernel
theorem dL_act_13 : decode cL_act 13 = .ok (.goto 4, 3) := by decide +kernel
theorem dL_act_16 : decode cL_act 16 = .ok (.iconst 0, 1) := by decide +kernel
theorem dL_act_17 : decode cL_act 17 = .ok (.istore_n 3, 1) := by decide +kernel
theorem dL_act_18 : decode cL_act 18 = .ok (.iload_n 1, 1) := by decide +kernel
theorem dL_act_19 : decode cL_act 19 = .ok (.bipush 36, 2) := by decide +kernel
theorem dL_act_21 : decode cL_act 21 = .ok (.invokestatic 66, 3) := by decide +kernel
theorem dL_act_24 : decode cL_act 24 = .ok (.istore 4, 2) := by decide +kernel
theorem dL_act_26 : decode cL_act 26 = .ok (.iload_n 3, 1) := by decide +kernel
theorem dL_act_27 : decode cL_act 27 = .ok (.ifCond .eq 17, 3) := by decide +kernel
theorem dL_act_30 : decode cL_act 30 = .ok (.iload_n 1, 1) := by decide +kernel
theorem dL_act_31 : decode cL_act 31 = .ok (.bipush 6, 2) := by decide +kernel
theorem dL_act_33 : decode cL_act 33 = .ok (.ishr, 1) := by decide +kernel
theorem dL_act_34 : decode cL_act 34 = .ok (.bipush 8, 2) := by decide +kernel
theorem dL_act_36 : decode cL_act 36 = .ok (.invokestatic 66, 3) := by decide +kernel
theorem dL_act_39 : decode cL_act 39 = .ok (.iconst 1, 1) := by decide +kernel
theorem dL_act_40 : decode cL_act 40 = .ok (.isub, 1) := by decide +kernel
theorem dL_act_41 : decode cL_act 41 = .ok (.goto 11, 3) := by decide +kernel
theorem dL_act_44 : decode cL_act 44 = .ok (.iload_n 1, 1) := by decide +kernel
theorem dL_act_45 : decode cL_act 45 = .ok (.bipush 6, 2) := by decide +kernel
theorem dL_act_47 : decode cL_act 47 = .ok (.ishr, 1) := by decide +kernel
theorem dL_act_48 : decode cL_act 48 = .ok (.iconst 3, 1) := by decide +kernel
theorem dL_act_49 : decode cL_act 49 = .ok (.invokestatic 66, 3) := by decide +kernel
theorem dL_act_52 : decode cL_act 52 = .ok (.istore 5, 2) := by decide +kernel
theorem dL_act_54 : decode cL_act 54 = .ok (.iload_n 3, 1) := by decide +kernel
theorem dL_act_55 : decode cL_act 55 = .ok (.ifCond .eq 17, 3) := by decide +kernel
theorem dL_act_58 : decode cL_act 58 = .ok (.iload_n 1, 1) := by decide +kernel
theorem dL_act_59 : decode cL_act 59 = .ok (.bipush 9, 2) := by decide +kernel
theorem dL_act_61 : decode cL_act 61 = .ok (.ishr, 1) := by decide +kernel
theorem dL_act_62 : decode cL_act 62 = .ok (.bipush 9, 2) := by decide +kernel
theorem dL_act_64 : decode cL_act 64 = .ok (.invokestatic 66, 3) := by decide +kernel
theorem dL_act_67 : decode cL_act 67 = .ok (.iconst 1, 1) := by decide +kernel
theorem dL_act_68 : decode cL_act 68 = .ok (.isub, 1) := by decide +kernel
theorem dL_act_69 : decode cL_act 69 = .ok (.goto 12, 3) := by decide +kernel
theorem dL_act_72 : decode cL_act 72 = .ok (.iload_n 1, 1) := by decide +kernel
theorem dL_act_73 : decode cL_act 73 = .ok (.bipush 9, 2) := by decide +kernel
theorem dL_act_75 : decode cL_act 75 = .ok (.ishr, 1) := by decide +kernel
theorem dL_act_76 : decode cL_act 76 = .ok (.bipush 6, 2) := by decide +kernel
theorem dL_act_78 : decode cL_act 78 = .ok (.invokestatic 66, 3) := by decide +kernel
theorem dL_act_81 : decode cL_act 81 = .ok (.istore 6, 2) := by decide +kernel
theorem dL_act_83 : decode cL_act 83 = .ok (.iload 4, 2) := by decide +kernel
theorem dL_act_85 : decode cL_act 85 = .ok (.bipush 14, 2) := by decide +kernel
theorem dL_act_87 : decode cL_act 87 = .ok (.if_icmp .ge 165, 3) := by decide +kernel
theorem dL_act_90 : decode cL_act 90 = .ok (.iload_n 3, 1) := by decide +kernel
theorem dL_act_91 : decode cL_act 91 = .ok (.ifCond .eq 17, 3) := by decide +kernel
theorem dL_act_94 : decode cL_act 94 = .ok (.iload_n 1, 1) := by decide +kernel
theorem dL_act_95 : decode cL_act 95 = .ok (.bipush 8, 2) := by decide +kernel
theorem dL_act_97 : decode cL_act 97 = .ok (.ishr, 1) := by decide +kernel
theorem dL_act_98 : decode cL_act 98 = .ok (.bipush 7, 2) := by decide +kernel
theorem dL_act_100 : decode cL_act 100 = .ok (.invokestatic 66, 3) := by decide +kernel
theorem dL_act_103 : decode cL_act 103 = .ok (.iconst 1, 1) := by decide +kernel
theorem dL_act_104 : decode cL_act 104 = .ok (.isub, 1) := by decide +kernel
theorem dL_act_105 : decode cL_act 105 = .ok (.goto 14, 3) := by decide +kernel
theorem dL_act_108 : decode cL_act 108 = .ok (.iload_n 1, 1) := by decide +kernel
theorem dL_act_109 : decode cL_act 109 = .ok (.bipush 8, 2) := by decide +kernel
theorem dL_act_111 : decode cL_act 111 = .ok (.ishr, 1) := by decide +kernel
theorem dL_act_112 : decode cL_act 112 = .ok (.bipush 11, 2) := by decide +kernel
theorem dL_act_114 : decode cL_act 114 = .ok (.invokestatic 66, 3) := by decide +kernel
theorem dL_act_117 : decode cL_act 117 = .ok (.iconst 5, 1) := by decide +kernel
theorem dL_act_118 : decode cL_act 118 = .ok (.irem, 1) := by decide +kernel
theorem dL_act_119 : decode cL_act 119 = .ok (.istore 7, 2) := by decide +kernel
theorem dL_act_121 : decode cL_act 121 = .ok (.aload_n 0, 1) := by decide +kernel
theorem dL_act_122 : decode cL_act 122 = .ok (.iload_n 3, 1) := by decide +kernel
theorem dL_act_123 : decode cL_act 123 = .ok (.ifCond .eq 17, 3) := by decide +kernel
theorem dL_act_126 : decode cL_act 126 = .ok (.iload_n 1, 1) := by decide +kernel
theorem dL_act_127 : decode cL_act 127 = .ok (.bipush 6, 2) := by decide +kernel
theorem dL_act_129 : decode cL_act 129 = .ok (.ishr, 1) := by decide +kernel
theorem dL_act_130 : decode cL_act 130 = .ok (.bipush 13, 2) := by decide +kernel
theorem dL_act_132 : decode cL_act 132 = .ok (.invokestatic 66, 3) := by decide +kernel
theorem dL_act_135 : decode cL_act 135 = .ok (.iconst 1, 1) := by decide +kernel
theorem dL_act_136 : decode cL_act 136 = .ok (.isub, 1) := by decide +kernel
theorem dL_act_137 : decode cL_act 137 = .ok (.goto 11, 3) := by decide +kernel
theorem dL_act_140 : decode cL_act 140 = .ok (.iload_n 1, 1) := by decide +kernel
theorem dL_act_141 : decode cL_act 141 = .ok (.bipush 6, 2) := by decide +kernel
theorem dL_act_143 : decode cL_act 143 = .ok (.ishr, 1) := by decide +kernel
theorem dL_act_144 : decode cL_act 144 = .ok (.iconst 5, 1) := by decide +kernel
theorem dL_act_145 : decode cL_act 145 = .ok (.invokestatic 66, 3) := by decide +kernel
theorem dL_act_148 : decode cL_act 148 = .ok (.iload 7, 2) := by decide +kernel
theorem dL_act_150 : decode cL_act 150 = .ok (.iload 7, 2) := by decide +kernel
theorem dL_act_152 : decode cL_act 152 = .ok (.iconst 4, 1) := by decide +kernel
theorem dL_act_153 : decode cL_act 153 = .ok (.if_icmp .ne 26, 3) := by decide +kernel
theorem dL_act_156 : decode cL_act 156 = .ok (.bipush 10, 2) := by decide +kernel
theorem dL_act_158 : decode cL_act 158 = .ok (.iload_n 1, 1) := by decide +kernel
theorem dL_act_159 : decode cL_act 159 = .ok (.bipush 11, 2) := by decide +kernel
theorem dL_act_161 : decode cL_act 161 = .ok (.ishr, 1) := by decide +kernel
theorem dL_act_162 : decode cL_act 162 = .ok (.iconst 3, 1) := by decide +kernel
theorem dL_act_163 : decode cL_act 163 = .ok (.invokestatic 66, 3) := by decide +kernel
theorem dL_act_166 : decode cL_act 166 = .ok (.imul, 1) := by decide +kernel
theorem dL_act_167 : decode cL_act 167 = .ok (.iload_n 1, 1) := by decide +kernel
theorem dL_act_168 : decode cL_act 168 = .ok (.bipush 13, 2) := by decide +kernel
theorem dL_act_170 : decode cL_act 170 = .ok (.ishr, 1) := by decide +kernel
theorem dL_act_171 : decode cL_act 171 = .ok (.iconst 5, 1) := by decide +kernel
theorem dL_act_172 : decode cL_act 172 = .ok (.invokestatic 66, 3) := by decide +kernel
theorem dL_act_175 : decode cL_act 175 = .ok (.iadd, 1) := by decide +kernel
theorem dL_act_176 : decode cL_act 176 = .ok (.goto 31, 3) := by decide +kernel
theorem dL_act_179 : decode cL_act 179 = .ok (.iload_n 3, 1) := by decide +kernel
theorem dL_act_180 : decode cL_act 180 = .ok (.ifCond .eq 17, 3) := by decide +kernel
theorem dL_act_183 : decode cL_act 183 = .ok (.iload_n 1, 1) := by decide +kernel
theorem dL_act_184 : decode cL_act 184 = .ok (.bipush 11, 2) := by decide +kernel
theorem dL_act_186 : decode cL_act 186 = .ok (.ishr, 1) := by decide +kernel
theorem dL_act_187 : decode cL_act 187 = .ok (.bipush 70, 2) := by decide +kernel
theorem dL_act_189 : decode cL_act 189 = .ok (.invokestatic 66, 3) := by decide +kernel
theorem dL_act_192 : decode cL_act 192 = .ok (.iconst 5, 1) := by decide +kernel
theorem dL_act_193 : decode cL_act 193 = .ok (.isub, 1) := by decide +kernel
theorem dL_act_194 : decode cL_act 194 = .ok (.goto 13, 3) := by decide +kernel
theorem dL_act_197 : decode cL_act 197 = .ok (.iconst 1, 1) := by decide +kernel
theorem dL_act_198 : decode cL_act 198 = .ok (.iload_n 1, 1) := by decide +kernel
theorem dL_act_199 : decode cL_act 199 = .ok (.bipush 11, 2) := by decide +kernel
theorem dL_act_201 : decode cL_act 201 = .ok (.ishr, 1) := by decide +kernel
theorem dL_act_202 : decode cL_act 202 = .ok (.iconst 4, 1) := by decide +kernel
theorem dL_act_203 : decode cL_act 203 = .ok (.invokestatic 66, 3) := by decide +kernel
theorem dL_act_206 : decode cL_act 206 = .ok (.iadd, 1) := by decide +kernel
theorem dL_act_207 : decode cL_act 207 = .ok (.iload_n 3, 1) := by decide +kernel
theorem dL_act_208 : decode cL_act 208 = .ok (.ifCond .eq 17, 3) := by decide +kernel
theorem dL_act_211 : decode cL_act 211 = .ok (.iload_n 1, 1) := by decide +kernel
theorem dL_act_212 : decode cL_act 212 = .ok (.bipush 13, 2) := by decide +kernel
theorem dL_act_214 : decode cL_act 214 = .ok (.ishr, 1) := by decide +kernel
theorem dL_act_215 : decode cL_act 215 = .ok (.bipush 14, 2) := by decide +kernel
theorem dL_act_217 : decode cL_act 217 = .ok (.invokestatic 66, 3) := by decide +kernel
theorem dL_act_220 : decode cL_act 220 = .ok (.iconst 2, 1) := by decide +kernel
theorem dL_act_221 : decode cL_act 221 = .ok (.isub, 1) := by decide +kernel
theorem dL_act_222 : decode cL_act 222 = .ok (.goto 26, 3) := by decide +kernel
theorem dL_act_225 : decode cL_act 225 = .ok (.iload_n 1, 1) := by decide +kernel
theorem dL_act_226 : decode cL_act 226 = .ok (.bipush 15, 2) := by decide +kernel
theorem dL_act_228 : decode cL_act 228 = .ok (.ishr, 1) := by decide +kernel
theorem dL_act_229 : decode cL_act 229 = .ok (.iconst 1, 1) := by decide +kernel
theorem dL_act_230 : decode cL_act 230 = .ok (.iand, 1) := by decide +kernel
theorem dL_act_231 : decode cL_act 231 = .ok (.ifCond .ne 7, 3) := by decide +kernel
theorem dL_act_234 : decode cL_act 234 = .ok (.iconst (-1), 1) := by decide +kernel
theorem dL_act_235 : decode cL_act 235 = .ok (.goto 13, 3) := by decide +kernel
theorem dL_act_238 : decode cL_act 238 = .ok (.iconst 5, 1) := by decide +kernel
theorem dL_act_239 : decode cL_act 239 = .ok (.iload_n 1, 1) := by decide +kernel
theorem dL_act_240 : decode cL_act 240 = .ok (.bipush 13, 2) := by decide +kernel
theorem dL_act_242 : decode cL_act 242 = .ok (.ishr, 1) := by decide +kernel
theorem dL_act_243 : decode cL_act 243 = .ok (.iconst 3, 1) := by decide +kernel
theorem dL_act_244 : decode cL_act 244 = .ok (.invokestatic 66, 3) := by decide +kernel
theorem dL_act_247 : decode cL_act 247 = .ok (.iadd, 1) := by decide +kernel
theorem dL_act_248 : decode cL_act 248 = .ok (.invokestatic 71, 3) := by decide +kernel
theorem dL_act_251 : decode cL_act 251 = .ok (.ireturn, 1) := by decide +kernel
theorem dL_act_252 : decode cL_act 252 = .ok (.iload 4, 2) := by decide +kernel
theorem dL_act_254 : decode cL_act 254 = .ok (.bipush 18, 2) := by decide +kernel
theorem dL_act_256 : decode cL_act 256 = .ok (.if_icmp .ge 26, 3) := by decide +kernel
theorem dL_act_259 : decode cL_act 259 = .ok (.aload_n 0, 1) := by decide +kernel
theorem dL_act_260 : decode cL_act 260 = .ok (.iconst 0, 1) := by decide +kernel
theorem dL_act_261 : decode cL_act 261 = .ok (.iload_n 3, 1) := by decide +kernel
theorem dL_act_262 : decode cL_act 262 = .ok (.ifCond .eq 7, 3) := by decide +kernel
theorem dL_act_265 : decode cL_act 265 = .ok (.iload_n 1, 1) := by decide +kernel
theorem dL_act_266 : decode cL_act 266 = .ok (.goto 11, 3) := by decide +kernel
theorem dL_act_269 : decode cL_act 269 = .ok (.iload_n 1, 1) := by decide +kernel
theorem dL_act_270 : decode cL_act 270 = .ok (.bipush 6, 2) := by decide +kernel
theorem dL_act_272 : decode cL_act 272 = .ok (.ishr, 1) := by decide +kernel
theorem dL_act_273 : decode cL_act 273 = .ok (.iconst 3, 1) := by decide +kernel
theorem dL_act_274 : decode cL_act 274 = .ok (.invokestatic 66, 3) := by decide +kernel
theorem dL_act_277 : decode cL_act 277 = .ok (.iconst 0, 1) := by decide +kernel
theorem dL_act_278 : decode cL_act 278 = .ok (.invokestatic 74, 3) := by decide +kernel
theorem dL_act_281 : decode cL_act 281 = .ok (.ireturn, 1) := by decide +kernel
theorem dL_act_282 : decode cL_act 282 = .ok (.iload 4, 2) := by decide +kernel
theorem dL_act_284 : decode cL_act 284 = .ok (.bipush 25, 2) := by decide +kernel
theorem dL_act_286 : decode cL_act 286 = .ok (.if_icmp .ge 21, 3) := by decide +kernel
theorem dL_act_289 : decode cL_act 289 = .ok (.iload_n 2, 1) := by decide +kernel
theorem dL_act_290 : decode cL_act 290 = .ok (.ifCond .eq 14, 3) := by decide +kernel
theorem dL_act_293 : decode cL_act 293 = .ok (.aload_n 0, 1) := by decide +kernel
theorem dL_act_294 : decode cL_act 294 = .ok (.iconst 2, 1) := by decide +kernel
theorem dL_act_295 : decode cL_act 295 = .ok (.iload 5, 2) := by decide +kernel
theorem dL_act_297 : decode cL_act 297 = .ok (.iconst 0, 1) := by decide +kernel
theorem dL_act_298 : decode cL_act 298 = .ok (.invokestatic 74, 3) := by decide +kernel
theorem dL_act_301 : decode cL_act 301 = .ok (.goto 5, 3) := by decide +kernel
theorem dL_act_304 : decode cL_act 304 = .ok (.iload 5, 2) := by decide +kernel
theorem dL_act_306 : decode cL_act 306 = .ok (.ireturn, 1) := by decide +kernel
theorem dL_act_307 : decode cL_act 307 = .ok (.iload 4, 2) := by decide +kernel
theorem dL_act_309 : decode cL_act 309 = .ok (.bipush 29, 2) := by decide +kernel
theorem dL_act_311 : decode cL_act 311 = .ok (.if_icmp .ge 79, 3) := by decide +kernel
theorem dL_act_314 : decode cL_act 314 = .ok (.iload 4, 2) := by decide +kernel
theorem dL_act_316 : decode cL_act 316 = .ok (.bipush 27, 2) := by decide +kernel
theorem dL_act_318 : decode cL_act 318 = .ok (.if_icmp .ge 50, 3) := by decide +kernel
theorem dL_act_321 : decode cL_act 321 = .ok (.aload_n 0, 1) := by decide +kernel
theorem dL_act_322 : decode cL_act 322 = .ok (.iload 4, 2) := by decide +kernel
theorem dL_act_324 : decode cL_act 324 = .ok (.bipush 25, 2) := by decide +kernel
theorem dL_act_326 : decode cL_act 326 = .ok (.if_icmp .ne 7, 3) := by decide +kernel
theorem dL_act_329 : decode cL_act 329 = .ok (.iconst 3, 1) := by decide +kernel
theorem dL_act_330 : decode cL_act 330 = .ok (.goto 4, 3) := by decide +kernel
theorem dL_act_333 : decode cL_act 333 = .ok (.iconst 4, 1) := by decide +kernel
theorem dL_act_334 : decode cL_act 334 = .ok (.iload 5, 2) := by decide +kernel
theorem dL_act_336 : decode cL_act 336 = .ok (.iload_n 3, 1) := by decide +kernel
theorem dL_act_337 : decode cL_act 337 = .ok (.ifCond .eq 17, 3) := by decide +kernel
theorem dL_act_340 : decode cL_act 340 = .ok (.iload_n 1, 1) := by decide +kernel
theorem dL_act_341 : decode cL_act 341 = .ok (.bipush 9, 2) := by decide +kernel
theorem dL_act_343 : decode cL_act 343 = .ok (.ishr, 1) := by decide +kernel
theorem dL_act_344 : decode cL_act 344 = .ok (.bipush 6, 2) := by decide +kernel
theorem dL_act_346 : decode cL_act 346 = .ok (.invokestatic 66, 3) := by decide +kernel
theorem dL_act_349 : decode cL_act 349 = .ok (.iconst 1, 1) := by decide +kernel
theorem dL_act_350 : decode cL_act 350 = .ok (.isub, 1) := by decide +kernel
theorem dL_act_351 : decode cL_act 351 = .ok (.goto 11, 3) := by decide +kernel
theorem dL_act_354 : decode cL_act 354 = .ok (.iload_n 1, 1) := by decide +kernel
theorem dL_act_355 : decode cL_act 355 = .ok (.bipush 9, 2) := by decide +kernel
theorem dL_act_357 : decode cL_act 357 = .ok (.ishr, 1) := by decide +kernel
theorem dL_act_358 : decode cL_act 358 = .ok (.iconst 4, 1) := by decide +kernel
theorem dL_act_359 : decode cL_act 359 = .ok (.invokestatic 66, 3) := by decide +kernel
theorem dL_act_362 : decode cL_act 362 = .ok (.invokestatic 74, 3) := by decide +kernel
theorem dL_act_365 : decode cL_act 365 = .ok (.goto 24, 3) := by decide +kernel
theorem dL_act_368 : decode cL_act 368 = .ok (.aload_n 0, 1) := by decide +kernel
theorem dL_act_369 : decode cL_act 369 = .ok (.iload 4, 2) := by decide +kernel
theorem dL_act_371 : decode cL_act 371 = .ok (.bipush 27, 2) := by decide +kernel
theorem dL_act_373 : decode cL_act 373 = .ok (.if_icmp .ne 7, 3) := by decide +kernel
theorem dL_act_376 : decode cL_act 376 = .ok (.iconst 5, 1) := by decide +kernel
theorem dL_act_377 : decode cL_act 377 = .ok (.goto 5, 3) := by decide +kernel
theorem dL_act_380 : decode cL_act 380 = .ok (.bipush 6, 2) := by decide +kernel
theorem dL_act_382 : decode cL_act 382 = .ok (.iload 5, 2) := by decide +kernel
theorem dL_act_384 : decode cL_act 384 = .ok (.iload 6, 2) := by decide +kernel
theorem dL_act_386 : decode cL_act 386 = .ok (.invokestatic 74, 3) := by decide +kernel
theorem dL_act_389 : decode cL_act 389 = .ok (.ireturn, 1) := by decide +kernel
theorem dL_act_390 : decode cL_act 390 = .ok (.iload 4, 2) := by decide +kernel
theorem dL_act_392 : decode cL_act 392 = .ok (.bipush 32, 2) := by decide +kernel
theorem dL_act_394 : decode cL_act 394 = .ok (.if_icmp .ge 27, 3) := by decide +kernel
theorem dL_act_397 : decode cL_act 397 = .ok (.aload_n 0, 1) := by decide +kernel
theorem dL_act_398 : decode cL_act 398 = .ok (.bipush 9, 2) := by decide +kernel
theorem dL_act_400 : decode cL_act 400 = .ok (.iload_n 3, 1) := by decide +kernel
theorem dL_act_401 : decode cL_act 401 = .ok (.ifCond .eq 7, 3) := by decide +kernel
theorem dL_act_404 : decode cL_act 404 = .ok (.iload_n 1, 1) := by decide +kernel
theorem dL_act_405 : decode cL_act 405 = .ok (.goto 11, 3) := by decide +kernel
theorem dL_act_408 : decode cL_act 408 = .ok (.iload_n 1, 1) := by decide +kernel
theorem dL_act_409 : decode cL_act 409 = .ok (.bipush 6, 2) := by decide +kernel
theorem dL_act_411 : decode cL_act 411 = .ok (.ishr, 1) := by decide +kernel
theorem dL_act_412 : decode cL_act 412 = .ok (.iconst 3, 1) := by decide +kernel
theorem dL_act_413 : decode cL_act 413 = .ok (.invokestatic 66, 3) := by decide +kernel
theorem dL_act_416 : decode cL_act 416 = .ok (.iconst 0, 1) := by decide +kernel
theorem dL_act_417 : decode cL_act 417 = .ok (.invokestatic 74, 3) := by decide +kernel
theorem dL_act_420 : decode cL_act 420 = .ok (.ireturn, 1) := by decide +kernel
theorem dL_act_421 : decode cL_act 421 = .ok (.iload 4, 2) := by decide +kernel
theorem dL_act_423 : decode cL_act 423 = .ok (.bipush 32, 2) := by decide +kernel
theorem dL_act_425 : decode cL_act 425 = .ok (.if_icmp .ne 26, 3) := by decide +kernel
theorem dL_act_428 : decode cL_act 428 = .ok (.iload_n 1, 1) := by decide +kernel
theorem dL_act_429 : decode cL_act 429 = .ok (.bipush 8, 2) := by decide +kernel
theorem dL_act_431 : decode cL_act 431 = .ok (.ishr, 1) := by decide +kernel
theorem dL_act_432 : decode cL_act 432 = .ok (.iconst 3, 1) := by decide +kernel
theorem dL_act_433 : decode cL_act 433 = .ok (.iand, 1) := by decide +kernel
theorem dL_act_434 : decode cL_act 434 = .ok (.ifCond .ne 10, 3) := by decide +kernel
theorem dL_act_437 : decode cL_act 437 = .ok (.aload_n 0, 1) := by decide +kernel
theorem dL_act_438 : decode cL_act 438 = .ok (.invokevirtual 78, 3) := by decide +kernel
theorem dL_act_441 : decode cL_act 441 = .ok (.goto 63, 3) := by decide +kernel
theorem dL_act_444 : decode cL_act 444 = .ok (.aload_n 0, 1) := by decide +kernel
theorem dL_act_445 : decode cL_act 445 = .ok (.invokevirtual 82, 3) := by decide +kernel
theorem dL_act_448 : decode cL_act 448 = .ok (.goto 56, 3) := by decide +kernel
theorem dL_act_451 : decode cL_act 451 = .ok (.iload_n 3, 1) := by decide +kernel
theorem dL_act_452 : decode cL_act 452 = .ok (.ifCond .eq 29, 3) := by decide +kernel
theorem dL_act_455 : decode cL_act 455 = .ok (.aload_n 0, 1) := by decide +kernel
theorem dL_act_456 : decode cL_act 456 = .ok (.iconst 2, 1) := by decide +kernel
theorem dL_act_457 : decode cL_act 457 = .ok (.iload_n 1, 1) := by decide +kernel
theorem dL_act_458 : decode cL_act 458 = .ok (.bipush 6, 2) := by decide +kernel
theorem dL_act_460 : decode cL_act 460 = .ok (.ishr, 1) := by decide +kernel
theorem dL_act_461 : decode cL_act 461 = .ok (.bipush 40, 2) := by decide +kernel
theorem dL_act_463 : decode cL_act 463 = .ok (.invokestatic 66, 3) := by decide +kernel
theorem dL_act_466 : decode cL_act 466 = .ok (.iload_n 1, 1) := by decide +kernel
theorem dL_act_467 : decode cL_act 467 = .ok (.bipush 12, 2) := by decide +kernel
theorem dL_act_469 : decode cL_act 469 = .ok (.ishr, 1) := by decide +kernel
theorem dL_act_470 : decode cL_act 470 = .ok (.bipush 40, 2) := by decide +kernel
theorem dL_act_472 : decode cL_act 472 = .ok (.invokestatic 66, 3) := by decide +kernel
theorem dL_act_475 : decode cL_act 475 = .ok (.invokestatic 85, 3) := by decide +kernel
theorem dL_act_478 : decode cL_act 478 = .ok (.goto 26, 3) := by decide +kernel
theorem dL_act_481 : decode cL_act 481 = .ok (.aload_n 0, 1) := by decide +kernel
theorem dL_act_482 : decode cL_act 482 = .ok (.iconst 2, 1) := by decide +kernel
theorem dL_act_483 : decode cL_act 483 = .ok (.iload_n 1, 1) := by decide +kernel
theorem dL_act_484 : decode cL_act 484 = .ok (.bipush 6, 2) := by decide +kernel
theorem dL_act_486 : decode cL_act 486 = .ok (.ishr, 1) := by decide +kernel
theorem dL_act_487 : decode cL_act 487 = .ok (.bipush 18, 2) := by decide +kernel
theorem dL_act_489 : decode cL_act 489 = .ok (.invokestatic 66, 3) := by decide +kernel
theorem dL_act_492 : decode cL_act 492 = .ok (.iload_n 1, 1) := by decide +kernel
theorem dL_act_493 : decode cL_act 493 = .ok (.bipush 12, 2) := by decide +kernel
theorem dL_act_495 : decode cL_act 495 = .ok (.ishr, 1) := by decide +kernel
theorem dL_act_496 : decode cL_act 496 = .ok (.bipush 18, 2) := by decide +kernel
theorem dL_act_498 : decode cL_act 498 = .ok (.invokestatic 66, 3) := by decide +kernel
theorem dL_act_501 : decode cL_act 501 = .ok (.invokestatic 85, 3) := by decide +kernel
theorem dL_act_504 : decode cL_act 504 = .ok (.ireturn, 1) := by decide +kernel
theorem dL_areAlike_0 : decode cL_areAlike 0 = .ok (.iconst 1, 1) := by decide +kernel
theorem dL_areAlike_1 : decode cL_areAlike 1 = .ok (.istore_n 3, 1) := by decide +kernel
theorem dL_areAlike_2 : decode cL_areAlike 2 = .ok (.iconst 0, 1) := by decide +kernel
theorem dL_areAlike_3 : decode cL_areAlike 3 = .ok (.istore 4, 2) := by decide +kernel
theorem dL_areAlike_5 : decode cL_areAlike 5 = .ok (.iload 4, 2) := by decide +kernel
theorem dL_areAlike_7 : decode cL_areAlike 7 = .ok (.bipush 36, 2) := by decide +kernel
theorem dL_areAlike_9 : decode cL_areAlike 9 = .ok (.if_icmp .ge 217, 3) := by decide +kernel
theorem dL_areAlike_12 : decode cL_areAlike 12 = .ok (.iload_n 3, 1) := by decide +kernel
theorem dL_areAlike_13 : decode cL_areAlike 13 = .ok (.ifCond .eq 213, 3) := by decide +kernel
theorem dL_areAlike_16 : decode cL_areAlike 16 = .ok (.aload_n 0, 1) := by decide +kernel
theorem dL_areAlike_17 : decode cL_areAlike 17 = .ok (.bipush 7, 2) := by decide +kernel
theorem dL_areAlike_19 : decode cL_areAlike 19 = .ok (.iload 4, 2) := by decide +kernel
theorem dL_areAlike_21 : decode cL_areAlike 21 = .ok (.bipush 6, 2) := by decide +kernel
theorem dL_areAlike_23 : decode cL_areAlike 23 = .ok (.idiv, 1) := by decide +kernel
theorem dL_areAlike_24 : decode cL_areAlike 24 = .ok (.iload 4, 2) := by decide +kernel
theorem dL_areAlike_26 : decode cL_areAlike 26 = .ok (.bipush 6, 2) := by decide +kernel
theorem dL_areAlike_28 : decode cL_areAlike 28 = .ok (.irem, 1) := by decide +kernel
theorem dL_areAlike_29 : decode cL_areAlike 29 = .ok (.invokestatic 74, 3) := by decide +kernel
theorem dL_areAlike_32 : decode cL_areAlike 32 = .ok (.aload_n 1, 1) := by decide +kernel
theorem dL_areAlike_33 : decode cL_areAlike 33 = .ok (.bipush 7, 2) := by decide +kernel
theorem dL_areAlike_35 : decode cL_areAlike 35 = .ok (.iload 4, 2) := by decide +kernel
theorem dL_areAlike_37 : decode cL_areAlike 37 = .ok (.bipush 6, 2) := by decide +kernel
theorem dL_areAlike_39 : decode cL_areAlike 39 = .ok (.idiv, 1) := by decide +kernel
theorem dL_areAlike_40 : decode cL_areAlike 40 = .ok (.iload 4, 2) := by decide +kernel
theorem dL_areAlike_42 : decode cL_areAlike 42 = .ok (.bipush 6, 2) := by decide +kernel
theorem dL_areAlike_44 : decode cL_areAlike 44 = .ok (.irem, 1) := by decide +kernel
theorem dL_areAlike_45 : decode cL_areAlike 45 = .ok (.invokestatic 74, 3) := by decide +kernel
theorem dL_areAlike_48 : decode cL_areAlike 48 = .ok (.if_icmp .ne 86, 3) := by decide +kernel
theorem dL_areAlike_51 : decode cL_areAlike 51 = .ok (.aload_n 0, 1) := by decide +kernel
theorem dL_areAlike_52 : decode cL_areAlike 52 = .ok (.bipush 8, 2) := by decide +kernel
theorem dL_areAlike_54 : decode cL_areAlike 54 = .ok (.iload 4, 2) := by decide +kernel
theorem dL_areAlike_56 : decode cL_areAlike 56 = .ok (.bipush 6, 2) := by decide +kernel
theorem dL_areAlike_58 : decode cL_areAlike 58 = .ok (.idiv, 1) := by decide +kernel
theorem dL_areAlike_59 : decode cL_areAlike 59 = .ok (.iload 4, 2) := by decide +kernel
theorem dL_areAlike_61 : decode cL_areAlike 61 = .ok (.bipush 6, 2) := by decide +kernel
theorem dL_areAlike_63 : decode cL_areAlike 63 = .ok (.irem, 1) := by decide +kernel
theorem dL_areAlike_64 : decode cL_areAlike 64 = .ok (.invokestatic 74, 3) := by decide +kernel
theorem dL_areAlike_67 : decode cL_areAlike 67 = .ok (.aload_n 1, 1) := by decide +kernel
theorem dL_areAlike_68 : decode cL_areAlike 68 = .ok (.bipush 8, 2) := by decide +kernel
theorem dL_areAlike_70 : decode cL_areAlike 70 = .ok (.iload 4, 2) := by decide +kernel
theorem dL_areAlike_72 : decode cL_areAlike 72 = .ok (.bipush 6, 2) := by decide +kernel
theorem dL_areAlike_74 : decode cL_areAlike 74 = .ok (.idiv, 1) := by decide +kernel
theorem dL_areAlike_75 : decode cL_areAlike 75 = .ok (.iload 4, 2) := by decide +kernel
theorem dL_areAlike_77 : decode cL_areAlike 77 = .ok (.bipush 6, 2) := by decide +kernel
theorem dL_areAlike_79 : decode cL_areAlike 79 = .ok (.irem, 1) := by decide +kernel
theorem dL_areAlike_80 : decode cL_areAlike 80 = .ok (.invokestatic 74, 3) := by decide +kernel
theorem dL_areAlike_83 : decode cL_areAlike 83 = .ok (.if_icmp .ne 51, 3) := by decide +kernel
theorem dL_areAlike_86 : decode cL_areAlike 86 = .ok (.iload 4, 2) := by decide +kernel
theorem dL_areAlike_88 : decode cL_areAlike 88 = .ok (.bipush 7, 2) := by decide +kernel
theorem dL_areAlike_90 : decode cL_areAlike 90 = .ok (.irem, 1) := by decide +kernel
theorem dL_areAlike_91 : decode cL_areAlike 91 = .ok (.iload_n 2, 1) := by decide +kernel
theorem dL_areAlike_92 : decode cL_areAlike 92 = .ok (.if_icmp .ne 38, 3) := by decide +kernel
theorem dL_areAlike_95 : decode cL_areAlike 95 = .ok (.aload_n 0, 1) := by decide +kernel
theorem dL_areAlike_96 : decode cL_areAlike 96 = .ok (.bipush 10, 2) := by decide +kernel
theorem dL_areAlike_98 : decode cL_areAlike 98 = .ok (.iload 4, 2) := by decide +kernel
theorem dL_areAlike_100 : decode cL_areAlike 100 = .ok (.bipush 6, 2) := by decide +kernel
theorem dL_areAlike_102 : decode cL_areAlike 102 = .ok (.idiv, 1) := by decide +kernel
theorem dL_areAlike_103 : decode cL_areAlike 103 = .ok (.iload 4, 2) := by decide +kernel
theorem dL_areAlike_105 : decode cL_areAlike 105 = .ok (.bipush 6, 2) := by decide +kernel
theorem dL_areAlike_107 : decode cL_areAlike 107 = .ok (.irem, 1) := by decide +kernel
theorem dL_areAlike_108 : decode cL_areAlike 108 = .ok (.invokestatic 74, 3) := by decide +kernel
theorem dL_areAlike_111 : decode cL_areAlike 111 = .ok (.aload_n 1, 1) := by decide +kernel
theorem dL_areAlike_112 : decode cL_areAlike 112 = .ok (.bipush 10, 2) := by decide +kernel
theorem dL_areAlike_114 : decode cL_areAlike 114 = .ok (.iload 4, 2) := by decide +kernel
theorem dL_areAlike_116 : decode cL_areAlike 116 = .ok (.bipush 6, 2) := by decide +kernel
theorem dL_areAlike_118 : decode cL_areAlike 118 = .ok (.idiv, 1) := by decide +kernel
theorem dL_areAlike_119 : decode cL_areAlike 119 = .ok (.iload 4, 2) := by decide +kernel
theorem dL_areAlike_121 : decode cL_areAlike 121 = .ok (.bipush 6, 2) := by decide +kernel
theorem dL_areAlike_123 : decode cL_areAlike 123 = .ok (.irem, 1) := by decide +kernel
theorem dL_areAlike_124 : decode cL_areAlike 124 = .ok (.invokestatic 74, 3) := by decide +kernel
theorem dL_areAlike_127 : decode cL_areAlike 127 = .ok (.if_icmp .ne 7, 3) := by decide +kernel
theorem dL_areAlike_130 : decode cL_areAlike 130 = .ok (.iconst 1, 1) := by decide +kernel
theorem dL_areAlike_131 : decode cL_areAlike 131 = .ok (.goto 4, 3) := by decide +kernel
theorem dL_areAlike_134 : decode cL_areAlike 134 = .ok (.iconst 0, 1) := by decide +kernel
theorem dL_areAlike_135 : decode cL_areAlike 135 = .ok (.istore_n 3, 1) := by decide +kernel
theorem dL_areAlike_136 : decode cL_areAlike 136 = .ok (.iload_n 3, 1) := by decide +kernel
theorem dL_areAlike_137 : decode cL_areAlike 137 = .ok (.ifCond .eq 81, 3) := by decide +kernel
theorem dL_areAlike_140 : decode cL_areAlike 140 = .ok (.iload 4, 2) := by decide +kernel
theorem dL_areAlike_142 : decode cL_areAlike 142 = .ok (.iconst 5, 1) := by decide +kernel
theorem dL_areAlike_143 : decode cL_areAlike 143 = .ok (.if_icmp .gt 43, 3) := by decide +kernel
theorem dL_areAlike_146 : decode cL_areAlike 146 = .ok (.aload_n 0, 1) := by decide +kernel
theorem dL_areAlike_147 : decode cL_areAlike 147 = .ok (.iload 4, 2) := by decide +kernel
theorem dL_areAlike_149 : decode cL_areAlike 149 = .ok (.invokevirtual 88, 3) := by decide +kernel
theorem dL_areAlike_152 : decode cL_areAlike 152 = .ok (.aload_n 1, 1) := by decide +kernel
theorem dL_areAlike_153 : decode cL_areAlike 153 = .ok (.iload 4, 2) := by decide +kernel
theorem dL_areAlike_155 : decode cL_areAlike 155 = .ok (.invokevirtual 88, 3) := by decide +kernel
theorem dL_areAlike_158 : decode cL_areAlike 158 = .ok (.if_icmp .ne 60, 3) := by decide +kernel
theorem dL_areAlike_161 : decode cL_areAlike 161 = .ok (.iload 4, 2) := by decide +kernel
theorem dL_areAlike_163 : decode cL_areAlike 163 = .ok (.iload_n 2, 1) := by decide +kernel
theorem dL_areAlike_164 : decode cL_areAlike 164 = .ok (.if_icmp .ne 22, 3) := by decide +kernel
theorem dL_areAlike_167 : decode cL_areAlike 167 = .ok (.aload_n 0, 1) := by decide +kernel
theorem dL_areAlike_168 : decode cL_areAlike 168 = .ok (.iconst 1, 1) := by decide +kernel
theorem dL_areAlike_169 : decode cL_areAlike 169 = .ok (.iload 4, 2) := by decide +kernel
theorem dL_areAlike_171 : decode cL_areAlike 171 = .ok (.iconst 0, 1) := by decide +kernel
theorem dL_areAlike_172 : decode cL_areAlike 172 = .ok (.invokestatic 74, 3) := by decide +kernel
theorem dL_areAlike_175 : decode cL_areAlike 175 = .ok (.aload_n 1, 1) := by decide +kernel
theorem dL_areAlike_176 : decode cL_areAlike 176 = .ok (.iconst 1, 1) := by decide +kernel
theorem dL_areAlike_177 : decode cL_areAlike 177 = .ok (.iload 4, 2) := by decide +kernel
theorem dL_areAlike_179 : decode cL_areAlike 179 = .ok (.iconst 0, 1) := by decide +kernel
theorem dL_areAlike_180 : decode cL_areAlike 180 = .ok (.invokestatic 74, 3) := by decide +kernel
theorem dL_areAlike_183 : decode cL_areAlike 183 = .ok (.if_icmp .ne 35, 3) := by decide +kernel
theorem dL_areAlike_186 : decode cL_areAlike 186 = .ok (.iload 4, 2) := by decide +kernel
theorem dL_areAlike_188 : decode cL_areAlike 188 = .ok (.bipush 20, 2) := by decide +kernel
theorem dL_areAlike_190 : decode cL_areAlike 190 = .ok (.if_icmp .gt 24, 3) := by decide +kernel
theorem dL_areAlike_193 : decode cL_areAlike 193 = .ok (.aload_n 0, 1) := by decide +kernel
theorem dL_areAlike_194 : decode cL_areAlike 194 = .ok (.bipush 11, 2) := by decide +kernel
theorem dL_areAlike_196 : decode cL_areAlike 196 = .ok (.iload 4, 2) := by decide +kernel
theorem dL_areAlike_198 : decode cL_areAlike 198 = .ok (.iconst 0, 1) := by decide +kernel
theorem dL_areAlike_199 : decode cL_areAlike 199 = .ok (.invokestatic 74, 3) := by decide +kernel
theorem dL_areAlike_202 : decode cL_areAlike 202 = .ok (.aload_n 1, 1) := by decide +kernel
theorem dL_areAlike_203 : decode cL_areAlike 203 = .ok (.bipush 11, 2) := by decide +kernel
theorem dL_areAlike_205 : decode cL_areAlike 205 = .ok (.iload 4, 2) := by decide +kernel
theorem dL_areAlike_207 : decode cL_areAlike 207 = .ok (.iconst 0, 1) := by decide +kernel
theorem dL_areAlike_208 : decode cL_areAlike 208 = .ok (.invokestatic 74, 3) := by decide +kernel
theorem dL_areAlike_211 : decode cL_areAlike 211 = .ok (.if_icmp .ne 7, 3) := by decide +kernel
theorem dL_areAlike_214 : decode cL_areAlike 214 = .ok (.iconst 1, 1) := by decide +kernel
theorem dL_areAlike_215 : decode cL_areAlike 215 = .ok (.goto 4, 3) := by decide +kernel
theorem dL_areAlike_218 : decode cL_areAlike 218 = .ok (.iconst 0, 1) := by decide +kernel
theorem dL_areAlike_219 : decode cL_areAlike 219 = .ok (.istore_n 3, 1) := by decide +kernel
theorem dL_areAlike_220 : decode cL_areAlike 220 = .ok (.iinc 4 1, 3) := by decide +kernel
theorem dL_areAlike_223 : decode cL_areAlike 223 = .ok (.goto (-218), 3) := by decide +kernel
theorem dL_areAlike_226 : decode cL_areAlike 226 = .ok (.iload_n 3, 1) := by decide +kernel
theorem dL_areAlike_227 : decode cL_areAlike 227 = .ok (.ireturn, 1) := by decide +kernel
theorem dL_areVersionsSo_0 : decode cL_areVersionsSo 0 = .ok (.iconst 1, 1) := by decide +kernel
theorem dL_areVersionsSo_1 : decode cL_areVersionsSo 1 = .ok (.istore_n 3, 1) := by decide +kernel
theorem dL_areVersionsSo_2 : decode cL_areVersionsSo 2 = .ok (.aload_n 0, 1) := by decide +kernel
theorem dL_areVersionsSo_3 : decode cL_areVersionsSo 3 = .ok (.bipush 7, 2) := by decide +kernel
theorem dL_areVersionsSo_5 : decode cL_areVersionsSo 5 = .ok (.iload_n 1, 1) := by decide +kernel
theorem dL_areVersionsSo_6 : decode cL_areVersionsSo 6 = .ok (.bipush 6, 2) := by decide +kernel
theorem dL_areVersionsSo_8 : decode cL_areVersionsSo 8 = .ok (.idiv, 1) := by decide +kernel
theorem dL_areVersionsSo_9 : decode cL_areVersionsSo 9 = .ok (.iload_n 1, 1) := by decide +kernel
theorem dL_areVersionsSo_10 : decode cL_areVersionsSo 10 = .ok (.bipush 6, 2) := by decide +kernel
theorem dL_areVersionsSo_12 : decode cL_areVersionsSo 12 = .ok (.irem, 1) := by decide +kernel
theorem dL_areVersionsSo_13 : decode cL_areVersionsSo 13 = .ok (.invokestatic 74, 3) := by decide +kernel
theorem dL_areVersionsSo_16 : decode cL_areVersionsSo 16 = .ok (.istore 4, 2) := by decide +kernel
theorem dL_areVersionsSo_18 : decode cL_areVersionsSo 18 = .ok (.iconst 0, 1) := by decide +kernel
theorem dL_areVersionsSo_19 : decode cL_areVersionsSo 19 = .ok (.istore 5, 2) := by decide +kernel
theorem dL_areVersionsSo_21 : decode cL_areVersionsSo 21 = .ok (.iload 5, 2) := by decide +kernel
theorem dL_areVersionsSo_23 : decode cL_areVersionsSo 23 = .ok (.bipush 36, 2) := by decide +kernel
theorem dL_areVersionsSo_25 : decode cL_areVersionsSo 25 = .ok (.if_icmp .ge 238, 3) := by decide +kernel
theorem dL_areVersionsSo_28 : decode cL_areVersionsSo 28 = .ok (.iload_n 3, 1) := by decide +kernel
theorem dL_areVersionsSo_29 : decode cL_areVersionsSo 29 = .ok (.ifCond .eq 234, 3) := by decide +kernel
theorem dL_areVersionsSo_32 : decode cL_areVersionsSo 32 = .ok (.aload_n 0, 1) := by decide +kernel
theorem dL_areVersionsSo_33 : decode cL_areVersionsSo 33 = .ok (.bipush 7, 2) := by decide +kernel
theorem dL_areVersionsSo_35 : decode cL_areVersionsSo 35 = .ok (.iload 5, 2) := by decide +kernel
theorem dL_areVersionsSo_37 : decode cL_areVersionsSo 37 = .ok (.bipush 6, 2) := by decide +kernel
theorem dL_areVersionsSo_39 : decode cL_areVersionsSo 39 = .ok (.idiv, 1) := by decide +kernel
theorem dL_areVersionsSo_40 : decode cL_areVersionsSo 40 = .ok (.iload 5, 2) := by decide +kernel
theorem dL_areVersionsSo_42 : decode cL_areVersionsSo 42 = .ok (.bipush 6, 2) := by decide +kernel
theorem dL_areVersionsSo_44 : decode cL_areVersionsSo 44 = .ok (.irem, 1) := by decide +kernel
theorem dL_areVersionsSo_45 : decode cL_areVersionsSo 45 = .ok (.invokestatic 74, 3) := by decide +kernel
theorem dL_areVersionsSo_48 : decode cL_areVersionsSo 48 = .ok (.istore 6, 2) := by decide +kernel
theorem dL_areVersionsSo_50 : decode cL_areVersionsSo 50 = .ok (.iload 6, 2) := by decide +kernel
theorem dL_areVersionsSo_52 : decode cL_areVersionsSo 52 = .ok (.ifCond .lt 205, 3) := by decide +kernel
theorem dL_areVersionsSo_55 : decode cL_areVersionsSo 55 = .ok (.iload 5, 2) := by decide +kernel
theorem dL_areVersionsSo_57 : decode cL_areVersionsSo 57 = .ok (.bipush 6, 2) := by decide +kernel
theorem dL_areVersionsSo_59 : decode cL_areVersionsSo 59 = .ok (.irem, 1) := by decide +kernel
theorem dL_areVersionsSo_60 : decode cL_areVersionsSo 60 = .ok (.iload_n 2, 1) := by decide +kernel
theorem dL_areVersionsSo_61 : decode cL_areVersionsSo 61 = .ok (.if_icmp .ne 14, 3) := by decide +kernel
theorem dL_areVersionsSo_64 : decode cL_areVersionsSo 64 = .ok (.aload_n 0, 1) := by decide +kernel
theorem dL_areVersionsSo_65 : decode cL_areVersionsSo 65 = .ok (.iconst 0, 1) := by decide +kernel
theorem dL_areVersionsSo_66 : decode cL_areVersionsSo 66 = .ok (.iload 5, 2) := by decide +kernel
theorem dL_areVersionsSo_68 : decode cL_areVersionsSo 68 = .ok (.iload_n 1, 1) := by decide +kernel
theorem dL_areVersionsSo_69 : decode cL_areVersionsSo 69 = .ok (.invokestatic 85, 3) := by decide +kernel
theorem dL_areVersionsSo_72 : decode cL_areVersionsSo 72 = .ok (.goto 4, 3) := by decide +kernel
theorem dL_areVersionsSo_75 : decode cL_areVersionsSo 75 = .ok (.iconst 0, 1) := by decide +kernel
theorem dL_areVersionsSo_76 : decode cL_areVersionsSo 76 = .ok (.istore 7, 2) := by decide +kernel
theorem dL_areVersionsSo_78 : decode cL_areVersionsSo 78 = .ok (.iload 5, 2) := by decide +kernel
theorem dL_areVersionsSo_80 : decode cL_areVersionsSo 80 = .ok (.bipush 6, 2) := by decide +kernel
theorem dL_areVersionsSo_82 : decode cL_areVersionsSo 82 = .ok (.irem, 1) := by decide +kernel
theorem dL_areVersionsSo_83 : decode cL_areVersionsSo 83 = .ok (.iload_n 2, 1) := by decide +kernel
theorem dL_areVersionsSo_84 : decode cL_areVersionsSo 84 = .ok (.if_icmp .ne 26, 3) := by decide +kernel
theorem dL_areVersionsSo_87 : decode cL_areVersionsSo 87 = .ok (.iload 5, 2) := by decide +kernel
theorem dL_areVersionsSo_89 : decode cL_areVersionsSo 89 = .ok (.bipush 6, 2) := by decide +kernel
theorem dL_areVersionsSo_91 : decode cL_areVersionsSo 91 = .ok (.idiv, 1) := by decide +kernel
theorem dL_areVersionsSo_92 : decode cL_areVersionsSo 92 = .ok (.iload_n 1, 1) := by decide +kernel
theorem dL_areVersionsSo_93 : decode cL_areVersionsSo 93 = .ok (.bipush 6, 2) := by decide +kernel
theorem dL_areVersionsSo_95 : decode cL_areVersionsSo 95 = .ok (.idiv, 1) := by decide +kernel
theorem dL_areVersionsSo_96 : decode cL_areVersionsSo 96 = .ok (.if_icmp .ne 14, 3) := by decide +kernel
theorem dL_areVersionsSo_99 : decode cL_areVersionsSo 99 = .ok (.aload_n 0, 1) := by decide +kernel
theorem dL_areVersionsSo_100 : decode cL_areVersionsSo 100 = .ok (.iconst 1, 1) := by decide +kernel
theorem dL_areVersionsSo_101 : decode cL_areVersionsSo 101 = .ok (.iload 5, 2) := by decide +kernel
theorem dL_areVersionsSo_103 : decode cL_areVersionsSo 103 = .ok (.iload_n 1, 1) := by decide +kernel
theorem dL_areVersionsSo_104 : decode cL_areVersionsSo 104 = .ok (.invokestatic 85, 3) := by decide +kernel
theorem dL_areVersionsSo_107 : decode cL_areVersionsSo 107 = .ok (.goto 5, 3) := by decide +kernel
theorem dL_areVersionsSo_110 : decode cL_areVersionsSo 110 = .ok (.iload 7, 2) := by decide +kernel
theorem dL_areVersionsSo_112 : decode cL_areVersionsSo 112 = .ok (.istore 8, 2) := by decide +kernel
theorem dL_areVersionsSo_114 : decode cL_areVersionsSo 114 = .ok (.aload_n 0, 1) := by decide +kernel
theorem dL_areVersionsSo_115 : decode cL_areVersionsSo 115 = .ok (.bipush 8, 2) := by decide +kernel
theorem dL_areVersionsSo_117 : decode cL_areVersionsSo 117 = .ok (.iload 5, 2) := by decide +kernel
theorem dL_areVersionsSo_119 : decode cL_areVersionsSo 119 = .ok (.bipush 6, 2) := by decide +kernel
theorem dL_areVersionsSo_121 : decode cL_areVersionsSo 121 = .ok (.idiv, 1) := by decide +kernel
theorem dL_areVersionsSo_122 : decode cL_areVersionsSo 122 = .ok (.iload 5, 2) := by decide +kernel
theorem dL_areVersionsSo_124 : decode cL_areVersionsSo 124 = .ok (.bipush 6, 2) := by decide +kernel
theorem dL_areVersionsSo_126 : decode cL_areVersionsSo 126 = .ok (.irem, 1) := by decide +kernel
theorem dL_areVersionsSo_127 : decode cL_areVersionsSo 127 = .ok (.invokestatic 74, 3) := by decide +kernel
theorem dL_areVersionsSo_130 : decode cL_areVersionsSo 130 = .ok (.istore 9, 2) := by decide +kernel
theorem dL_areVersionsSo_132 : decode cL_areVersionsSo 132 = .ok (.iload 9, 2) := by decide +kernel
theorem dL_areVersionsSo_134 : decode cL_areVersionsSo 134 = .ok (.iconst 1, 1) := by decide +kernel
theorem dL_areVersionsSo_135 : decode cL_areVersionsSo 135 = .ok (.if_icmp .lt 120, 3) := by decide +kernel
theorem dL_areVersionsSo_138 : decode cL_areVersionsSo 138 = .ok (.iload 9, 2) := by decide +kernel
theorem dL_areVersionsSo_140 : decode cL_areVersionsSo 140 = .ok (.bipush 20, 2) := by decide +kernel
theorem dL_areVersionsSo_142 : decode cL_areVersionsSo 142 = .ok (.if_icmp .gt 113, 3) := by decide +kernel
theorem dL_areVersionsSo_145 : decode cL_areVersionsSo 145 = .ok (.iload 6, 2) := by decide +kernel
theorem dL_areVersionsSo_147 : decode cL_areVersionsSo 147 = .ok (.bipush 36, 2) := by decide +kernel
theorem dL_areVersionsSo_149 : decode cL_areVersionsSo 149 = .ok (.if_icmp .ge 106, 3) := by decide +kernel
theorem dL_areVersionsSo_152 : decode cL_areVersionsSo 152 = .ok (.iload 5, 2) := by decide +kernel
theorem dL_areVersionsSo_154 : decode cL_areVersionsSo 154 = .ok (.bipush 6, 2) := by decide +kernel
theorem dL_areVersionsSo_156 : decode cL_areVersionsSo 156 = .ok (.irem, 1) := by decide +kernel
theorem dL_areVersionsSo_157 : decode cL_areVersionsSo 157 = .ok (.iload_n 2, 1) := by decide +kernel
theorem dL_areVersionsSo_158 : decode cL_areVersionsSo 158 = .ok (.if_icmp .ne 52, 3) := by decide +kernel
theorem dL_areVersionsSo_161 : decode cL_areVersionsSo 161 = .ok (.aload_n 0, 1) := by decide +kernel
theorem dL_areVersionsSo_162 : decode cL_areVersionsSo 162 = .ok (.iconst 0, 1) := by decide +kernel
theorem dL_areVersionsSo_163 : decode cL_areVersionsSo 163 = .ok (.iload 5, 2) := by decide +kernel
theorem dL_areVersionsSo_165 : decode cL_areVersionsSo 165 = .ok (.iload 5, 2) := by decide +kernel
theorem dL_areVersionsSo_167 : decode cL_areVersionsSo 167 = .ok (.invokestatic 85, 3) := by decide +kernel
theorem dL_areVersionsSo_170 : decode cL_areVersionsSo 170 = .ok (.iconst 1, 1) := by decide +kernel
theorem dL_areVersionsSo_171 : decode cL_areVersionsSo 171 = .ok (.if_icmp .ne 84, 3) := by decide +kernel
theorem dL_areVersionsSo_174 : decode cL_areVersionsSo 174 = .ok (.iload 4, 2) := by decide +kernel
theorem dL_areVersionsSo_176 : decode cL_areVersionsSo 176 = .ok (.ifCond .ge 20, 3) := by decide +kernel
theorem dL_areVersionsSo_179 : decode cL_areVersionsSo 179 = .ok (.iload 7, 2) := by decide +kernel
theorem dL_areVersionsSo_181 : decode cL_areVersionsSo 181 = .ok (.ldc 16, 2) := by decide +kernel
theorem dL_areVersionsSo_183 : decode cL_areVersionsSo 183 = .ok (.if_icmp .ne 72, 3) := by decide +kernel
theorem dL_areVersionsSo_186 : decode cL_areVersionsSo 186 = .ok (.iload 8, 2) := by decide +kernel
theorem dL_areVersionsSo_188 : decode cL_areVersionsSo 188 = .ok (.ldc 16, 2) := by decide +kernel
theorem dL_areVersionsSo_190 : decode cL_areVersionsSo 190 = .ok (.if_icmp .ne 65, 3) := by decide +kernel
theorem dL_areVersionsSo_193 : decode cL_areVersionsSo 193 = .ok (.goto 17, 3) := by decide +kernel
theorem dL_areVersionsSo_196 : decode cL_areVersionsSo 196 = .ok (.iload 8, 2) := by decide +kernel
theorem dL_areVersionsSo_198 : decode cL_areVersionsSo 198 = .ok (.ldc 16, 2) := by decide +kernel
theorem dL_areVersionsSo_200 : decode cL_areVersionsSo 200 = .ok (.if_icmp .eq 10, 3) := by decide +kernel
theorem dL_areVersionsSo_203 : decode cL_areVersionsSo 203 = .ok (.iload 8, 2) := by decide +kernel
theorem dL_areVersionsSo_205 : decode cL_areVersionsSo 205 = .ok (.iload 7, 2) := by decide +kernel
theorem dL_areVersionsSo_207 : decode cL_areVersionsSo 207 = .ok (.if_icmp .ne 48, 3) := by decide +kernel
theorem dL_areVersionsSo_210 : decode cL_areVersionsSo 210 = .ok (.iload 4, 2) := by decide +kernel
theorem dL_areVersionsSo_212 : decode cL_areVersionsSo 212 = .ok (.iload 6, 2) := by decide +kernel
theorem dL_areVersionsSo_214 : decode cL_areVersionsSo 214 = .ok (.if_icmp .ne 37, 3) := by decide +kernel
theorem dL_areVersionsSo_217 : decode cL_areVersionsSo 217 = .ok (.iload 5, 2) := by decide +kernel
theorem dL_areVersionsSo_219 : decode cL_areVersionsSo 219 = .ok (.bipush 6, 2) := by decide +kernel
theorem dL_areVersionsSo_221 : decode cL_areVersionsSo 221 = .ok (.irem, 1) := by decide +kernel
theorem dL_areVersionsSo_222 : decode cL_areVersionsSo 222 = .ok (.iload_n 2, 1) := by decide +kernel
theorem dL_areVersionsSo_223 : decode cL_areVersionsSo 223 = .ok (.if_icmp .ne 9, 3) := by decide +kernel
theorem dL_areVersionsSo_226 : decode cL_areVersionsSo 226 = .ok (.iload 7, 2) := by decide +kernel
theorem dL_areVersionsSo_228 : decode cL_areVersionsSo 228 = .ok (.iconst 1, 1) := by decide +kernel
theorem dL_areVersionsSo_229 : decode cL_areVersionsSo 229 = .ok (.if_icmp .ne 26, 3) := by decide +kernel
theorem dL_areVersionsSo_232 : decode cL_areVersionsSo 232 = .ok (.iload 9, 2) := by decide +kernel
theorem dL_areVersionsSo_234 : decode cL_areVersionsSo 234 = .ok (.aload_n 0, 1) := by decide +kernel
theorem dL_areVersionsSo_235 : decode cL_areVersionsSo 235 = .ok (.bipush 8, 2) := by decide +kernel
theorem dL_areVersionsSo_237 : decode cL_areVersionsSo 237 = .ok (.iload_n 1, 1) := by decide +kernel
theorem dL_areVersionsSo_238 : decode cL_areVersionsSo 238 = .ok (.bipush 6, 2) := by decide +kernel
theorem dL_areVersionsSo_240 : decode cL_areVersionsSo 240 = .ok (.idiv, 1) := by decide +kernel
theorem dL_areVersionsSo_241 : decode cL_areVersionsSo 241 = .ok (.iload_n 1, 1) := by decide +kernel
theorem dL_areVersionsSo_242 : decode cL_areVersionsSo 242 = .ok (.bipush 6, 2) := by decide +kernel
theorem dL_areVersionsSo_244 : decode cL_areVersionsSo 244 = .ok (.irem, 1) := by decide +kernel
theorem dL_areVersionsSo_245 : decode cL_areVersionsSo 245 = .ok (.invokestatic 74, 3) := by decide +kernel
theorem dL_areVersionsSo_248 : decode cL_areVersionsSo 248 = .ok (.if_icmp .ne 7, 3) := by decide +kernel
theorem dL_areVersionsSo_251 : decode cL_areVersionsSo 251 = .ok (.iconst 1, 1) := by decide +kernel
theorem dL_areVersionsSo_252 : decode cL_areVersionsSo 252 = .ok (.goto 4, 3) := by decide +kernel
theorem dL_areVersionsSo_255 : decode cL_areVersionsSo 255 = .ok (.iconst 0, 1) := by decide +kernel
theorem dL_areVersionsSo_256 : decode cL_areVersionsSo 256 = .ok (.istore_n 3, 1) := by decide +kernel
theorem dL_areVersionsSo_257 : decode cL_areVersionsSo 257 = .ok (.iinc 5 1, 3) := by decide +kernel
theorem dL_areVersionsSo_260 : decode cL_areVersionsSo 260 = .ok (.goto (-239), 3) := by decide +kernel
theorem dL_areVersionsSo_263 : decode cL_areVersionsSo 263 = .ok (.iload_n 3, 1) := by decide +kernel
theorem dL_areVersionsSo_264 : decode cL_areVersionsSo 264 = .ok (.ireturn, 1) := by decide +kernel
theorem dL_isReadSo_0 : decode cL_isReadSo 0 = .ok (.aload_n 0, 1) := by decide +kernel
theorem dL_isReadSo_1 : decode cL_isReadSo 1 = .ok (.bipush 8, 2) := by decide +kernel
theorem dL_isReadSo_3 : decode cL_isReadSo 3 = .ok (.iload_n 3, 1) := by decide +kernel
theorem dL_isReadSo_4 : decode cL_isReadSo 4 = .ok (.bipush 6, 2) := by decide +kernel
