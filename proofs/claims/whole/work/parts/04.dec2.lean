theorem dX5_canReadSchema_20 : decode cX5_canReadSchema 20 = .ok (.getfield 81, 3) := by decide +kernel
theorem dX5_canReadSchema_23 : decode cX5_canReadSchema 23 = .ok (.invokevirtual 84, 3) := by decide +kernel
theorem dX5_canReadSchema_26 : decode cX5_canReadSchema 26 = .ok (.if_icmp .ge 30, 3) := by decide +kernel
theorem dX5_canReadSchema_29 : decode cX5_canReadSchema 29 = .ok (.aload_n 0, 1) := by decide +kernel
theorem dX5_canReadSchema_30 : decode cX5_canReadSchema 30 = .ok (.getfield 81, 3) := by decide +kernel
theorem dX5_canReadSchema_33 : decode cX5_canReadSchema 33 = .ok (.iload_n 3, 1) := by decide +kernel
theorem dX5_canReadSchema_34 : decode cX5_canReadSchema 34 = .ok (.invokevirtual 242, 3) := by decide +kernel
theorem dX5_canReadSchema_37 : decode cX5_canReadSchema 37 = .ok (.checkcast 96, 3) := by decide +kernel
theorem dX5_canReadSchema_40 : decode cX5_canReadSchema 40 = .ok (.aload_n 1, 1) := by decide +kernel
theorem dX5_canReadSchema_41 : decode cX5_canReadSchema 41 = .ok (.iload_n 2, 1) := by decide +kernel
theorem dX5_canReadSchema_42 : decode cX5_canReadSchema 42 = .ok (.invokestatic 268, 3) := by decide +kernel
theorem dX5_canReadSchema_45 : decode cX5_canReadSchema 45 = .ok (.ifCond .ne 5, 3) := by decide +kernel
theorem dX5_canReadSchema_48 : decode cX5_canReadSchema 48 = .ok (.iconst 0, 1) := by decide +kernel
theorem dX5_canReadSchema_49 : decode cX5_canReadSchema 49 = .ok (.ireturn, 1) := by decide +kernel
theorem dX5_canReadSchema_50 : decode cX5_canReadSchema 50 = .ok (.iinc 3 1, 3) := by decide +kernel
theorem dX5_canReadSchema_53 : decode cX5_canReadSchema 53 = .ok (.goto (-35), 3) := by decide +kernel
theorem dX5_canReadSchema_56 : decode cX5_canReadSchema 56 = .ok (.iconst 1, 1) := by decide +kernel
theorem dX5_canReadSchema_57 : decode cX5_canReadSchema 57 = .ok (.ireturn, 1) := by decide +kernel
theorem dX5_canReadField_0 : decode cX5_canReadField 0 = .ok (.aload_n 1, 1) := by decide +kernel
theorem dX5_canReadField_1 : decode cX5_canReadField 1 = .ok (.aload_n 0, 1) := by decide +kernel
theorem dX5_canReadField_2 : decode cX5_canReadField 2 = .ok (.invokevirtual 272, 3) := by decide +kernel
theorem dX5_canReadField_5 : decode cX5_canReadField 5 = .ok (.astore_n 3, 1) := by decide +kernel
theorem dX5_canReadField_6 : decode cX5_canReadField 6 = .ok (.aload_n 3, 1) := by decide +kernel
theorem dX5_canReadField_7 : decode cX5_canReadField 7 = .ok (.ifnonnull 8, 3) := by decide +kernel
theorem dX5_canReadField_10 : decode cX5_canReadField 10 = .ok (.aload_n 0, 1) := by decide +kernel
theorem dX5_canReadField_11 : decode cX5_canReadField 11 = .ok (.getfield 127, 3) := by decide +kernel
theorem dX5_canReadField_14 : decode cX5_canReadField 14 = .ok (.ireturn, 1) := by decide +kernel
theorem dX5_canReadField_15 : decode cX5_canReadField 15 = .ok (.aload_n 0, 1) := by decide +kernel
theorem dX5_canReadField_16 : decode cX5_canReadField 16 = .ok (.aload_n 3, 1) := by decide +kernel
theorem dX5_canReadField_17 : decode cX5_canReadField 17 = .ok (.getfield 113, 3) := by decide +kernel
theorem dX5_canReadField_20 : decode cX5_canReadField 20 = .ok (.invokevirtual 276, 3) := by decide +kernel
theorem dX5_canReadField_23 : decode cX5_canReadField 23 = .ok (.ifCond .ne 5, 3) := by decide +kernel
theorem dX5_canReadField_26 : decode cX5_canReadField 26 = .ok (.iconst 0, 1) := by decide +kernel
theorem dX5_canReadField_27 : decode cX5_canReadField 27 = .ok (.ireturn, 1) := by decide +kernel
theorem dX5_canReadField_28 : decode cX5_canReadField 28 = .ok (.aload_n 0, 1) := by decide +kernel
theorem dX5_canReadField_29 : decode cX5_canReadField 29 = .ok (.getfield 113, 3) := by decide +kernel
theorem dX5_canReadField_32 : decode cX5_canReadField 32 = .ok (.iconst 3, 1) := by decide +kernel
theorem dX5_canReadField_33 : decode cX5_canReadField 33 = .ok (.if_icmp .ne 27, 3) := by decide +kernel
theorem dX5_canReadField_36 : decode cX5_canReadField 36 = .ok (.aload_n 0, 1) := by decide +kernel
theorem dX5_canReadField_37 : decode cX5_canReadField 37 = .ok (.getfield 119, 3) := by decide +kernel
theorem dX5_canReadField_40 : decode cX5_canReadField 40 = .ok (.aload_n 3, 1) := by decide +kernel
theorem dX5_canReadField_41 : decode cX5_canReadField 41 = .ok (.getfield 119, 3) := by decide +kernel
theorem dX5_canReadField_44 : decode cX5_canReadField 44 = .ok (.if_icmp .ge 10, 3) := by decide +kernel
theorem dX5_canReadField_47 : decode cX5_canReadField 47 = .ok (.aload_n 0, 1) := by decide +kernel
theorem dX5_canReadField_48 : decode cX5_canReadField 48 = .ok (.getfield 127, 3) := by decide +kernel
theorem dX5_canReadField_51 : decode cX5_canReadField 51 = .ok (.ifCond .eq 7, 3) := by decide +kernel
theorem dX5_canReadField_54 : decode cX5_canReadField 54 = .ok (.iconst 1, 1) := by decide +kernel
theorem dX5_canReadField_55 : decode cX5_canReadField 55 = .ok (.goto 4, 3) := by decide +kernel
theorem dX5_canReadField_58 : decode cX5_canReadField 58 = .ok (.iconst 0, 1) := by decide +kernel
theorem dX5_canReadField_59 : decode cX5_canReadField 59 = .ok (.ireturn, 1) := by decide +kernel
theorem dX5_canReadField_60 : decode cX5_canReadField 60 = .ok (.aload_n 0, 1) := by decide +kernel
theorem dX5_canReadField_61 : decode cX5_canReadField 61 = .ok (.getfield 113, 3) := by decide +kernel
theorem dX5_canReadField_64 : decode cX5_canReadField 64 = .ok (.iconst 4, 1) := by decide +kernel
theorem dX5_canReadField_65 : decode cX5_canReadField 65 = .ok (.if_icmp .ne 20, 3) := by decide +kernel
theorem dX5_canReadField_68 : decode cX5_canReadField 68 = .ok (.aload_n 0, 1) := by decide +kernel
theorem dX5_canReadField_69 : decode cX5_canReadField 69 = .ok (.getfield 279, 3) := by decide +kernel
theorem dX5_canReadField_72 : decode cX5_canReadField 72 = .ok (.aload_n 3, 1) := by decide +kernel
theorem dX5_canReadField_73 : decode cX5_canReadField 73 = .ok (.getfield 279, 3) := by decide +kernel
theorem dX5_canReadField_76 : decode cX5_canReadField 76 = .ok (.iload_n 2, 1) := by decide +kernel
theorem dX5_canReadField_77 : decode cX5_canReadField 77 = .ok (.iconst 1, 1) := by decide +kernel
theorem dX5_canReadField_78 : decode cX5_canReadField 78 = .ok (.iadd, 1) := by decide +kernel
theorem dX5_canReadField_79 : decode cX5_canReadField 79 = .ok (.invokestatic 205, 3) := by decide +kernel
theorem dX5_canReadField_82 : decode cX5_canReadField 82 = .ok (.ifCond .eq 7, 3) := by decide +kernel
theorem dX5_canReadField_85 : decode cX5_canReadField 85 = .ok (.iconst 1, 1) := by decide +kernel
theorem dX5_canReadField_86 : decode cX5_canReadField 86 = .ok (.goto 4, 3) := by decide +kernel
theorem dX5_canReadField_89 : decode cX5_canReadField 89 = .ok (.iconst 0, 1) := by decide +kernel
theorem dX5_canReadField_90 : decode cX5_canReadField 90 = .ok (.ireturn, 1) := by decide +kernel
theorem dX5_isRecordOf_0 : decode cX5_isRecordOf 0 = .ok (.aload_n 0, 1) := by decide +kernel
theorem dX5_isRecordOf_1 : decode cX5_isRecordOf 1 = .ok (.getfield 36, 3) := by decide +kernel
theorem dX5_isRecordOf_4 : decode cX5_isRecordOf 4 = .ok (.invokevirtual 77, 3) := by decide +kernel
theorem dX5_isRecordOf_7 : decode cX5_isRecordOf 7 = .ok (.aload_n 1, 1) := by decide +kernel
theorem dX5_isRecordOf_8 : decode cX5_isRecordOf 8 = .ok (.getfield 74, 3) := by decide +kernel
theorem dX5_isRecordOf_11 : decode cX5_isRecordOf 11 = .ok (.invokevirtual 77, 3) := by decide +kernel
theorem dX5_isRecordOf_14 : decode cX5_isRecordOf 14 = .ok (.if_icmp .eq 5, 3) := by decide +kernel
theorem dX5_isRecordOf_17 : decode cX5_isRecordOf 17 = .ok (.iconst 0, 1) := by decide +kernel
theorem dX5_isRecordOf_18 : decode cX5_isRecordOf 18 = .ok (.ireturn, 1) := by decide +kernel
theorem dX5_isRecordOf_19 : decode cX5_isRecordOf 19 = .ok (.iconst 0, 1) := by decide +kernel
theorem dX5_isRecordOf_20 : decode cX5_isRecordOf 20 = .ok (.istore_n 2, 1) := by decide +kernel
theorem dX5_isRecordOf_21 : decode cX5_isRecordOf 21 = .ok (.iload_n 2, 1) := by decide +kernel
theorem dX5_isRecordOf_22 : decode cX5_isRecordOf 22 = .ok (.aload_n 0, 1) := by decide +kernel
theorem dX5_isRecordOf_23 : decode cX5_isRecordOf 23 = .ok (.getfield 36, 3) := by decide +kernel
theorem dX5_isRecordOf_26 : decode cX5_isRecordOf 26 = .ok (.invokevirtual 77, 3) := by decide +kernel
theorem dX5_isRecordOf_29 : decode cX5_isRecordOf 29 = .ok (.if_icmp .ge 33, 3) := by decide +kernel
theorem dX5_isRecordOf_32 : decode cX5_isRecordOf 32 = .ok (.aload_n 0, 1) := by decide +kernel
theorem dX5_isRecordOf_33 : decode cX5_isRecordOf 33 = .ok (.getfield 36, 3) := by decide +kernel
theorem dX5_isRecordOf_36 : decode cX5_isRecordOf 36 = .ok (.iload_n 2, 1) := by decide +kernel
theorem dX5_isRecordOf_37 : decode cX5_isRecordOf 37 = .ok (.invokevirtual 236, 3) := by decide +kernel
theorem dX5_isRecordOf_40 : decode cX5_isRecordOf 40 = .ok (.aload_n 1, 1) := by decide +kernel
theorem dX5_isRecordOf_41 : decode cX5_isRecordOf 41 = .ok (.getfield 74, 3) := by decide +kernel
theorem dX5_isRecordOf_44 : decode cX5_isRecordOf 44 = .ok (.iload_n 2, 1) := by decide +kernel
theorem dX5_isRecordOf_45 : decode cX5_isRecordOf 45 = .ok (.invokevirtual 236, 3) := by decide +kernel
theorem dX5_isRecordOf_48 : decode cX5_isRecordOf 48 = .ok (.invokestatic 121, 3) := by decide +kernel
theorem dX5_isRecordOf_51 : decode cX5_isRecordOf 51 = .ok (.ifCond .ne 5, 3) := by decide +kernel
theorem dX5_isRecordOf_54 : decode cX5_isRecordOf 54 = .ok (.iconst 0, 1) := by decide +kernel
theorem dX5_isRecordOf_55 : decode cX5_isRecordOf 55 = .ok (.ireturn, 1) := by decide +kernel
theorem dX5_isRecordOf_56 : decode cX5_isRecordOf 56 = .ok (.iinc 2 1, 3) := by decide +kernel
theorem dX5_isRecordOf_59 : decode cX5_isRecordOf 59 = .ok (.goto (-38), 3) := by decide +kernel
theorem dX5_isRecordOf_62 : decode cX5_isRecordOf 62 = .ok (.iconst 1, 1) := by decide +kernel
theorem dX5_isRecordOf_63 : decode cX5_isRecordOf 63 = .ok (.ireturn, 1) := by decide +kernel
theorem dX5_readSchema_0 : decode cX5_readSchema 0 = .ok (.aload_n 0, 1) := by decide +kernel
theorem dX5_readSchema_1 : decode cX5_readSchema 1 = .ok (.ifnull 14, 3) := by decide +kernel
theorem dX5_readSchema_4 : decode cX5_readSchema 4 = .ok (.aload_n 1, 1) := by decide +kernel
theorem dX5_readSchema_5 : decode cX5_readSchema 5 = .ok (.ifnull 10, 3) := by decide +kernel
theorem dX5_readSchema_8 : decode cX5_readSchema 8 = .ok (.iload 5, 2) := by decide +kernel
theorem dX5_readSchema_10 : decode cX5_readSchema 10 = .ok (.bipush 40, 2) := by decide +kernel
theorem dX5_readSchema_12 : decode cX5_readSchema 12 = .ok (.if_icmp .le 5, 3) := by decide +kernel
theorem dX5_readSchema_15 : decode cX5_readSchema 15 = .ok (.iconst 0, 1) := by decide +kernel
theorem dX5_readSchema_16 : decode cX5_readSchema 16 = .ok (.ireturn, 1) := by decide +kernel
theorem dX5_readSchema_17 : decode cX5_readSchema 17 = .ok (.iconst 0, 1) := by decide +kernel
theorem dX5_readSchema_18 : decode cX5_readSchema 18 = .ok (.istore 6, 2) := by decide +kernel
theorem dX5_readSchema_20 : decode cX5_readSchema 20 = .ok (.iload 6, 2) := by decide +kernel
theorem dX5_readSchema_22 : decode cX5_readSchema 22 = .ok (.aload_n 0, 1) := by decide +kernel
theorem dX5_readSchema_23 : decode cX5_readSchema 23 = .ok (.getfield 81, 3) := by decide +kernel
theorem dX5_readSchema_26 : decode cX5_readSchema 26 = .ok (.invokevirtual 84, 3) := by decide +kernel
theorem dX5_readSchema_29 : decode cX5_readSchema 29 = .ok (.if_icmp .ge 36, 3) := by decide +kernel
theorem dX5_readSchema_32 : decode cX5_readSchema 32 = .ok (.aload_n 0, 1) := by decide +kernel
theorem dX5_readSchema_33 : decode cX5_readSchema 33 = .ok (.getfield 81, 3) := by decide +kernel
theorem dX5_readSchema_36 : decode cX5_readSchema 36 = .ok (.iload 6, 2) := by decide +kernel
theorem dX5_readSchema_38 : decode cX5_readSchema 38 = .ok (.invokevirtual 242, 3) := by decide +kernel
theorem dX5_readSchema_41 : decode cX5_readSchema 41 = .ok (.checkcast 96, 3) := by decide +kernel
theorem dX5_readSchema_44 : decode cX5_readSchema 44 = .ok (.aload_n 1, 1) := by decide +kernel
theorem dX5_readSchema_45 : decode cX5_readSchema 45 = .ok (.aload_n 2, 1) := by decide +kernel
theorem dX5_readSchema_46 : decode cX5_readSchema 46 = .ok (.iload_n 3, 1) := by decide +kernel
theorem dX5_readSchema_47 : decode cX5_readSchema 47 = .ok (.aload 4, 2) := by decide +kernel
theorem dX5_readSchema_49 : decode cX5_readSchema 49 = .ok (.iload 5, 2) := by decide +kernel
theorem dX5_readSchema_51 : decode cX5_readSchema 51 = .ok (.invokestatic 282, 3) := by decide +kernel
theorem dX5_readSchema_54 : decode cX5_readSchema 54 = .ok (.ifCond .ne 5, 3) := by decide +kernel
theorem dX5_readSchema_57 : decode cX5_readSchema 57 = .ok (.iconst 0, 1) := by decide +kernel
theorem dX5_readSchema_58 : decode cX5_readSchema 58 = .ok (.ireturn, 1) := by decide +kernel
theorem dX5_readSchema_59 : decode cX5_readSchema 59 = .ok (.iinc 6 1, 3) := by decide +kernel
theorem dX5_readSchema_62 : decode cX5_readSchema 62 = .ok (.goto (-42), 3) := by decide +kernel
theorem dX5_readSchema_65 : decode cX5_readSchema 65 = .ok (.iconst 1, 1) := by decide +kernel
theorem dX5_readSchema_66 : decode cX5_readSchema 66 = .ok (.ireturn, 1) := by decide +kernel
theorem dX5_readField_0 : decode cX5_readField 0 = .ok (.aload_n 1, 1) := by decide +kernel
theorem dX5_readField_1 : decode cX5_readField 1 = .ok (.aload_n 0, 1) := by decide +kernel
theorem dX5_readField_2 : decode cX5_readField 2 = .ok (.invokevirtual 272, 3) := by decide +kernel
theorem dX5_readField_5 : decode cX5_readField 5 = .ok (.astore 6, 2) := by decide +kernel
theorem dX5_readField_7 : decode cX5_readField 7 = .ok (.aload 6, 2) := by decide +kernel
theorem dX5_readField_9 : decode cX5_readField 9 = .ok (.ifnonnull 10, 3) := by decide +kernel
theorem dX5_readField_12 : decode cX5_readField 12 = .ok (.aload_n 0, 1) := by decide +kernel
theorem dX5_readField_13 : decode cX5_readField 13 = .ok (.aload 4, 2) := by decide +kernel
theorem dX5_readField_15 : decode cX5_readField 15 = .ok (.invokestatic 286, 3) := by decide +kernel
theorem dX5_readField_18 : decode cX5_readField 18 = .ok (.ireturn, 1) := by decide +kernel
theorem dX5_readField_19 : decode cX5_readField 19 = .ok (.aload_n 0, 1) := by decide +kernel
theorem dX5_readField_20 : decode cX5_readField 20 = .ok (.aload 6, 2) := by decide +kernel
theorem dX5_readField_22 : decode cX5_readField 22 = .ok (.getfield 113, 3) := by decide +kernel
theorem dX5_readField_25 : decode cX5_readField 25 = .ok (.invokevirtual 276, 3) := by decide +kernel
theorem dX5_readField_28 : decode cX5_readField 28 = .ok (.ifCond .ne 5, 3) := by decide +kernel
theorem dX5_readField_31 : decode cX5_readField 31 = .ok (.iconst 0, 1) := by decide +kernel
theorem dX5_readField_32 : decode cX5_readField 32 = .ok (.ireturn, 1) := by decide +kernel
theorem dX5_readField_33 : decode cX5_readField 33 = .ok (.iload_n 3, 1) := by decide +kernel
theorem dX5_readField_34 : decode cX5_readField 34 = .ok (.aload 6, 2) := by decide +kernel
theorem dX5_readField_36 : decode cX5_readField 36 = .ok (.getfield 290, 3) := by decide +kernel
theorem dX5_readField_39 : decode cX5_readField 39 = .ok (.iadd, 1) := by decide +kernel
theorem dX5_readField_40 : decode cX5_readField 40 = .ok (.istore 7, 2) := by decide +kernel
theorem dX5_readField_42 : decode cX5_readField 42 = .ok (.aload_n 0, 1) := by decide +kernel
theorem dX5_readField_43 : decode cX5_readField 43 = .ok (.getfield 113, 3) := by decide +kernel
theorem dX5_readField_46 : decode cX5_readField 46 = .ok (.iconst 4, 1) := by decide +kernel
theorem dX5_readField_47 : decode cX5_readField 47 = .ok (.if_icmp .ne 25, 3) := by decide +kernel
theorem dX5_readField_50 : decode cX5_readField 50 = .ok (.aload_n 0, 1) := by decide +kernel
theorem dX5_readField_51 : decode cX5_readField 51 = .ok (.getfield 279, 3) := by decide +kernel
theorem dX5_readField_54 : decode cX5_readField 54 = .ok (.aload 6, 2) := by decide +kernel
theorem dX5_readField_56 : decode cX5_readField 56 = .ok (.getfield 279, 3) := by decide +kernel
theorem dX5_readField_59 : decode cX5_readField 59 = .ok (.aload_n 2, 1) := by decide +kernel
theorem dX5_readField_60 : decode cX5_readField 60 = .ok (.iload 7, 2) := by decide +kernel
theorem dX5_readField_62 : decode cX5_readField 62 = .ok (.aload 4, 2) := by decide +kernel
theorem dX5_readField_64 : decode cX5_readField 64 = .ok (.iload 5, 2) := by decide +kernel
theorem dX5_readField_66 : decode cX5_readField 66 = .ok (.iconst 1, 1) := by decide +kernel
theorem dX5_readField_67 : decode cX5_readField 67 = .ok (.iadd, 1) := by decide +kernel
theorem dX5_readField_68 : decode cX5_readField 68 = .ok (.invokestatic 220, 3) := by decide +kernel
theorem dX5_readField_71 : decode cX5_readField 71 = .ok (.ireturn, 1) := by decide +kernel
theorem dX5_readField_72 : decode cX5_readField 72 = .ok (.aload_n 2, 1) := by decide +kernel
theorem dX5_readField_73 : decode cX5_readField 73 = .ok (.iload 7, 2) := by decide +kernel
theorem dX5_readField_75 : decode cX5_readField 75 = .ok (.invokevirtual 236, 3) := by decide +kernel
theorem dX5_readField_78 : decode cX5_readField 78 = .ok (.istore 8, 2) := by decide +kernel
theorem dX5_readField_80 : decode cX5_readField 80 = .ok (.aload_n 0, 1) := by decide +kernel
theorem dX5_readField_81 : decode cX5_readField 81 = .ok (.getfield 113, 3) := by decide +kernel
theorem dX5_readField_84 : decode cX5_readField 84 = .ok (.iconst 3, 1) := by decide +kernel
theorem dX5_readField_85 : decode cX5_readField 85 = .ok (.if_icmp .ne 19, 3) := by decide +kernel
theorem dX5_readField_88 : decode cX5_readField 88 = .ok (.iload 8, 2) := by decide +kernel
theorem dX5_readField_90 : decode cX5_readField 90 = .ok (.aload_n 0, 1) := by decide +kernel
theorem dX5_readField_91 : decode cX5_readField 91 = .ok (.getfield 119, 3) := by decide +kernel
theorem dX5_readField_94 : decode cX5_readField 94 = .ok (.if_icmp .lt 10, 3) := by decide +kernel
theorem dX5_readField_97 : decode cX5_readField 97 = .ok (.aload_n 0, 1) := by decide +kernel
theorem dX5_readField_98 : decode cX5_readField 98 = .ok (.aload 4, 2) := by decide +kernel
theorem dX5_readField_100 : decode cX5_readField 100 = .ok (.invokestatic 286, 3) := by decide +kernel
theorem dX5_readField_103 : decode cX5_readField 103 = .ok (.ireturn, 1) := by decide +kernel
theorem dX5_readField_104 : decode cX5_readField 104 = .ok (.aload 4, 2) := by decide +kernel
theorem dX5_readField_106 : decode cX5_readField 106 = .ok (.iload 8, 2) := by decide +kernel
theorem dX5_readField_108 : decode cX5_readField 108 = .ok (.invokevirtual 226, 3) := by decide +kernel
theorem dX5_readField_111 : decode cX5_readField 111 = .ok (.iconst 1, 1) := by decide +kernel
theorem dX5_readField_112 : decode cX5_readField 112 = .ok (.ireturn, 1) := by decide +kernel
theorem dX5_readDefault_0 : decode cX5_readDefault 0 = .ok (.aload_n 0, 1) := by decide +kernel
theorem dX5_readDefault_1 : decode cX5_readDefault 1 = .ok (.getfield 127, 3) := by decide +kernel
theorem dX5_readDefault_4 : decode cX5_readDefault 4 = .ok (.ifCond .eq 11, 3) := by decide +kernel
theorem dX5_readDefault_7 : decode cX5_readDefault 7 = .ok (.aload_n 1, 1) := by decide +kernel
theorem dX5_readDefault_8 : decode cX5_readDefault 8 = .ok (.aload_n 0, 1) := by decide +kernel
theorem dX5_readDefault_9 : decode cX5_readDefault 9 = .ok (.getfield 131, 3) := by decide +kernel
theorem dX5_readDefault_12 : decode cX5_readDefault 12 = .ok (.invokevirtual 226, 3) := by decide +kernel
theorem dX5_readDefault_15 : decode cX5_readDefault 15 = .ok (.aload_n 0, 1) := by decide +kernel
theorem dX5_readDefault_16 : decode cX5_readDefault 16 = .ok (.getfield 127, 3) := by decide +kernel
theorem dX5_readDefault_19 : decode cX5_readDefault 19 = .ok (.ireturn, 1) := by decide +kernel
theorem dX5_countSmallRecords_0 : decode cX5_countSmallRecords 0 = .ok (.iconst 1, 1) := by decide +kernel
theorem dX5_countSmallRecords_1 : decode cX5_countSmallRecords 1 = .ok (.istore_n 1, 1) := by decide +kernel
theorem dX5_countSmallRecords_2 : decode cX5_countSmallRecords 2 = .ok (.iconst 0, 1) := by decide +kernel
theorem dX5_countSmallRecords_3 : decode cX5_countSmallRecords 3 = .ok (.istore_n 2, 1) := by decide +kernel
theorem dX5_countSmallRecords_4 : decode cX5_countSmallRecords 4 = .ok (.iload_n 2, 1) := by decide +kernel
theorem dX5_countSmallRecords_5 : decode cX5_countSmallRecords 5 = .ok (.aload_n 0, 1) := by decide +kernel
theorem dX5_countSmallRecords_6 : decode cX5_countSmallRecords 6 = .ok (.invokevirtual 77, 3) := by decide +kernel
theorem dX5_countSmallRecords_9 : decode cX5_countSmallRecords 9 = .ok (.if_icmp .ge 32, 3) := by decide +kernel
theorem dX5_countSmallRecords_12 : decode cX5_countSmallRecords 12 = .ok (.iload_n 1, 1) := by decide +kernel
theorem dX5_countSmallRecords_13 : decode cX5_countSmallRecords 13 = .ok (.sipush 300, 3) := by decide +kernel
theorem dX5_countSmallRecords_16 : decode cX5_countSmallRecords 16 = .ok (.if_icmp .gt 25, 3) := by decide +kernel
theorem dX5_countSmallRecords_19 : decode cX5_countSmallRecords 19 = .ok (.aload_n 0, 1) := by decide +kernel
theorem dX5_countSmallRecords_20 : decode cX5_countSmallRecords 20 = .ok (.iload_n 2, 1) := by decide +kernel
theorem dX5_countSmallRecords_21 : decode cX5_countSmallRecords 21 = .ok (.invokevirtual 236, 3) := by decide +kernel
theorem dX5_countSmallRecords_24 : decode cX5_countSmallRecords 24 = .ok (.ifCond .eq 11, 3) := by decide +kernel
theorem dX5_countSmallRecords_27 : decode cX5_countSmallRecords 27 = .ok (.iload_n 1, 1) := by decide +kernel
theorem dX5_countSmallRecords_28 : decode cX5_countSmallRecords 28 = .ok (.aload_n 0, 1) := by decide +kernel
theorem dX5_countSmallRecords_29 : decode cX5_countSmallRecords 29 = .ok (.iload_n 2, 1) := by decide +kernel
theorem dX5_countSmallRecords_30 : decode cX5_countSmallRecords 30 = .ok (.invokevirtual 236, 3) := by decide +kernel
theorem dX5_countSmallRecords_33 : decode cX5_countSmallRecords 33 = .ok (.imul, 1) := by decide +kernel
theorem dX5_countSmallRecords_34 : decode cX5_countSmallRecords 34 = .ok (.istore_n 1, 1) := by decide +kernel
theorem dX5_countSmallRecords_35 : decode cX5_countSmallRecords 35 = .ok (.iinc 2 1, 3) := by decide +kernel
theorem dX5_countSmallRecords_38 : decode cX5_countSmallRecords 38 = .ok (.goto (-34), 3) := by decide +kernel
theorem dX5_countSmallRecords_41 : decode cX5_countSmallRecords 41 = .ok (.iload_n 1, 1) := by decide +kernel
theorem dX5_countSmallRecords_42 : decode cX5_countSmallRecords 42 = .ok (.ireturn, 1) := by decide +kernel
theorem dX5_putSmallRecord_0 : decode cX5_putSmallRecord 0 = .ok (.iload_n 2, 1) := by decide +kernel
theorem dX5_putSmallRecord_1 : decode cX5_putSmallRecord 1 = .ok (.istore_n 3, 1) := by decide +kernel
theorem dX5_putSmallRecord_2 : decode cX5_putSmallRecord 2 = .ok (.aload_n 0, 1) := by decide +kernel
theorem dX5_putSmallRecord_3 : decode cX5_putSmallRecord 3 = .ok (.invokevirtual 219, 3) := by decide +kernel
theorem dX5_putSmallRecord_6 : decode cX5_putSmallRecord 6 = .ok (.iconst 0, 1) := by decide +kernel
theorem dX5_putSmallRecord_7 : decode cX5_putSmallRecord 7 = .ok (.istore 4, 2) := by decide +kernel
theorem dX5_putSmallRecord_9 : decode cX5_putSmallRecord 9 = .ok (.iload 4, 2) := by decide +kernel
theorem dX5_putSmallRecord_11 : decode cX5_putSmallRecord 11 = .ok (.aload_n 1, 1) := by decide +kernel
theorem dX5_putSmallRecord_12 : decode cX5_putSmallRecord 12 = .ok (.invokevirtual 77, 3) := by decide +kernel
theorem dX5_putSmallRecord_15 : decode cX5_putSmallRecord 15 = .ok (.if_icmp .ge 43, 3) := by decide +kernel
theorem dX5_putSmallRecord_18 : decode cX5_putSmallRecord 18 = .ok (.aload_n 1, 1) := by decide +kernel
theorem dX5_putSmallRecord_19 : decode cX5_putSmallRecord 19 = .ok (.iload 4, 2) := by decide +kernel
theorem dX5_putSmallRecord_21 : decode cX5_putSmallRecord 21 = .ok (.invokevirtual 236, 3) := by decide +kernel
theorem dX5_putSmallRecord_24 : decode cX5_putSmallRecord 24 = .ok (.istore 5, 2) := by decide +kernel
theorem dX5_putSmallRecord_26 : decode cX5_putSmallRecord 26 = .ok (.iload 5, 2) := by decide +kernel
theorem dX5_putSmallRecord_28 : decode cX5_putSmallRecord 28 = .ok (.ifCond .le 19, 3) := by decide +kernel
theorem dX5_putSmallRecord_31 : decode cX5_putSmallRecord 31 = .ok (.aload_n 0, 1) := by decide +kernel
theorem dX5_putSmallRecord_32 : decode cX5_putSmallRecord 32 = .ok (.iload_n 3, 1) := by decide +kernel
theorem dX5_putSmallRecord_33 : decode cX5_putSmallRecord 33 = .ok (.iload 5, 2) := by decide +kernel
theorem dX5_putSmallRecord_35 : decode cX5_putSmallRecord 35 = .ok (.irem, 1) := by decide +kernel
theorem dX5_putSmallRecord_36 : decode cX5_putSmallRecord 36 = .ok (.invokevirtual 226, 3) := by decide +kernel
theorem dX5_putSmallRecord_39 : decode cX5_putSmallRecord 39 = .ok (.iload_n 3, 1) := by decide +kernel
theorem dX5_putSmallRecord_40 : decode cX5_putSmallRecord 40 = .ok (.iload 5, 2) := by decide +kernel
theorem dX5_putSmallRecord_42 : decode cX5_putSmallRecord 42 = .ok (.idiv, 1) := by decide +kernel
theorem dX5_putSmallRecord_43 : decode cX5_putSmallRecord 43 = .ok (.istore_n 3, 1) := by decide +kernel
theorem dX5_putSmallRecord_44 : decode cX5_putSmallRecord 44 = .ok (.goto 8, 3) := by decide +kernel
theorem dX5_putSmallRecord_47 : decode cX5_putSmallRecord 47 = .ok (.aload_n 0, 1) := by decide +kernel
theorem dX5_putSmallRecord_48 : decode cX5_putSmallRecord 48 = .ok (.iconst 0, 1) := by decide +kernel
theorem dX5_putSmallRecord_49 : decode cX5_putSmallRecord 49 = .ok (.invokevirtual 226, 3) := by decide +kernel
theorem dX5_putSmallRecord_52 : decode cX5_putSmallRecord 52 = .ok (.iinc 4 1, 3) := by decide +kernel
theorem dX5_putSmallRecord_55 : decode cX5_putSmallRecord 55 = .ok (.goto (-46), 3) := by decide +kernel
theorem dX5_putSmallRecord_58 : decode cX5_putSmallRecord 58 = .ok (.return_, 1) := by decide +kernel
theorem dX6_init_0 : decode cX6_init 0 = .ok (.aload_n 0, 1) := by decide +kernel
theorem dX6_init_1 : decode cX6_init 1 = .ok (.invokespecial 1, 3) := by decide +kernel
theorem dX6_init_4 : decode cX6_init 4 = .ok (.aload_n 0, 1) := by decide +kernel
theorem dX6_init_5 : decode cX6_init 5 = .ok (.sipush 185, 3) := by decide +kernel
theorem dX6_init_8 : decode cX6_init 8 = .ok (.newarray .int, 2) := by decide +kernel
theorem dX6_init_10 : decode cX6_init 10 = .ok (.putfield 7, 3) := by decide +kernel
theorem dX6_init_13 : decode cX6_init 13 = .ok (.aload_n 0, 1) := by decide +kernel
theorem dX6_init_14 : decode cX6_init 14 = .ok (.sipush 185, 3) := by decide +kernel
theorem dX6_init_17 : decode cX6_init 17 = .ok (.newarray .int, 2) := by decide +kernel
theorem dX6_init_19 : decode cX6_init 19 = .ok (.putfield 13, 3) := by decide +kernel
theorem dX6_init_22 : decode cX6_init 22 = .ok (.aload_n 0, 1) := by decide +kernel
theorem dX6_init_23 : decode cX6_init 23 = .ok (.sipush 185, 3) := by decide +kernel
theorem dX6_init_26 : decode cX6_init 26 = .ok (.newarray .int, 2) := by decide +kernel
theorem dX6_init_28 : decode cX6_init 28 = .ok (.putfield 16, 3) := by decide +kernel
theorem dX6_init_31 : decode cX6_init 31 = .ok (.aload_n 0, 1) := by decide +kernel
theorem dX6_init_32 : decode cX6_init 32 = .ok (.sipush 185, 3) := by decide +kernel
theorem dX6_init_35 : decode cX6_init 35 = .ok (.newarray .int, 2) := by decide +kernel
theorem dX6_init_37 : decode cX6_init 37 = .ok (.putfield 19, 3) := by decide +kernel
theorem dX6_init_40 : decode cX6_init 40 = .ok (.aload_n 0, 1) := by decide +kernel
theorem dX6_init_41 : decode cX6_init 41 = .ok (.sipush 185, 3) := by decide +kernel
theorem dX6_init_44 : decode cX6_init 44 = .ok (.newarray .boolean, 2) := by decide +kernel
theorem dX6_init_46 : decode cX6_init 46 = .ok (.putfield 22, 3) := by decide +kernel
theorem dX6_init_49 : decode cX6_init 49 = .ok (.aload_n 0, 1) := by decide +kernel
theorem dX6_init_50 : decode cX6_init 50 = .ok (.sipush 185, 3) := by decide +kernel
theorem dX6_init_53 : decode cX6_init 53 = .ok (.newarray .int, 2) := by decide +kernel
theorem dX6_init_55 : decode cX6_init 55 = .ok (.putfield 26, 3) := by decide +kernel
theorem dX6_init_58 : decode cX6_init 58 = .ok (.aload_n 0, 1) := by decide +kernel
theorem dX6_init_59 : decode cX6_init 59 = .ok (.bipush 37, 2) := by decide +kernel
theorem dX6_init_61 : decode cX6_init 61 = .ok (.newarray .int, 2) := by decide +kernel
theorem dX6_init_63 : decode cX6_init 63 = .ok (.putfield 29, 3) := by decide +kernel
theorem dX6_init_66 : decode cX6_init 66 = .ok (.aload_n 0, 1) := by decide +kernel
theorem dX6_init_67 : decode cX6_init 67 = .ok (.bipush 37, 2) := by decide +kernel
theorem dX6_init_69 : decode cX6_init 69 = .ok (.newarray .int, 2) := by decide +kernel
theorem dX6_init_71 : decode cX6_init 71 = .ok (.putfield 32, 3) := by decide +kernel
theorem dX6_init_74 : decode cX6_init 74 = .ok (.aload_n 0, 1) := by decide +kernel
theorem dX6_init_75 : decode cX6_init 75 = .ok (.sipush 1369, 3) := by decide +kernel
theorem dX6_init_78 : decode cX6_init 78 = .ok (.newarray .boolean, 2) := by decide +kernel
theorem dX6_init_80 : decode cX6_init 80 = .ok (.putfield 35, 3) := by decide +kernel
theorem dX6_init_83 : decode cX6_init 83 = .ok (.aload_n 0, 1) := by decide +kernel
theorem dX6_init_84 : decode cX6_init 84 = .ok (.bipush 36, 2) := by decide +kernel
theorem dX6_init_86 : decode cX6_init 86 = .ok (.newarray .int, 2) := by decide +kernel
theorem dX6_init_88 : decode cX6_init 88 = .ok (.putfield 38, 3) := by decide +kernel
theorem dX6_init_91 : decode cX6_init 91 = .ok (.aload_n 0, 1) := by decide +kernel
theorem dX6_init_92 : decode cX6_init 92 = .ok (.bipush 36, 2) := by decide +kernel
theorem dX6_init_94 : decode cX6_init 94 = .ok (.newarray .int, 2) := by decide +kernel
theorem dX6_init_96 : decode cX6_init 96 = .ok (.putfield 41, 3) := by decide +kernel
theorem dX6_init_99 : decode cX6_init 99 = .ok (.aload_n 0, 1) := by decide +kernel
theorem dX6_init_100 : decode cX6_init 100 = .ok (.bipush 6, 2) := by decide +kernel
theorem dX6_init_102 : decode cX6_init 102 = .ok (.newarray .int, 2) := by decide +kernel
theorem dX6_init_104 : decode cX6_init 104 = .ok (.putfield 44, 3) := by decide +kernel
theorem dX6_init_107 : decode cX6_init 107 = .ok (.aload_n 0, 1) := by decide +kernel
theorem dX6_init_108 : decode cX6_init 108 = .ok (.bipush 6, 2) := by decide +kernel
theorem dX6_init_110 : decode cX6_init 110 = .ok (.newarray .int, 2) := by decide +kernel
theorem dX6_init_112 : decode cX6_init 112 = .ok (.putfield 47, 3) := by decide +kernel
theorem dX6_init_115 : decode cX6_init 115 = .ok (.aload_n 0, 1) := by decide +kernel
theorem dX6_init_116 : decode cX6_init 116 = .ok (.bipush 6, 2) := by decide +kernel
theorem dX6_init_118 : decode cX6_init 118 = .ok (.newarray .boolean, 2) := by decide +kernel
theorem dX6_init_120 : decode cX6_init 120 = .ok (.putfield 50, 3) := by decide +kernel
theorem dX6_init_123 : decode cX6_init 123 = .ok (.aload_n 0, 1) := by decide +kernel
theorem dX6_init_124 : decode cX6_init 124 = .ok (.bipush 20, 2) := by decide +kernel
theorem dX6_init_126 : decode cX6_init 126 = .ok (.newarray .int, 2) := by decide +kernel
theorem dX6_init_128 : decode cX6_init 128 = .ok (.putfield 53, 3) := by decide +kernel
theorem dX6_init_131 : decode cX6_init 131 = .ok (.aload_n 0, 1) := by decide +kernel
theorem dX6_init_132 : decode cX6_init 132 = .ok (.bipush 20, 2) := by decide +kernel
theorem dX6_init_134 : decode cX6_init 134 = .ok (.newarray .int, 2) := by decide +kernel
theorem dX6_init_136 : decode cX6_init 136 = .ok (.putfield 56, 3) := by decide +kernel
theorem dX6_init_139 : decode cX6_init 139 = .ok (.aload_n 0, 1) := by decide +kernel
theorem dX6_init_140 : decode cX6_init 140 = .ok (.bipush 40, 2) := by decide +kernel
theorem dX6_init_142 : decode cX6_init 142 = .ok (.newarray .int, 2) := by decide +kernel
theorem dX6_init_144 : decode cX6_init 144 = .ok (.putfield 59, 3) := by decide +kernel
theorem dX6_init_147 : decode cX6_init 147 = .ok (.aload_n 0, 1) := by decide +kernel
theorem dX6_init_148 : decode cX6_init 148 = .ok (.bipush 40, 2) := by decide +kernel
theorem dX6_init_150 : decode cX6_init 150 = .ok (.newarray .int, 2) := by decide +kernel
theorem dX6_init_152 : decode cX6_init 152 = .ok (.putfield 62, 3) := by decide +kernel
theorem dX6_init_155 : decode cX6_init 155 = .ok (.aload_n 0, 1) := by decide +kernel
theorem dX6_init_156 : decode cX6_init 156 = .ok (.bipush 40, 2) := by decide +kernel
theorem dX6_init_158 : decode cX6_init 158 = .ok (.newarray .int, 2) := by decide +kernel
theorem dX6_init_160 : decode cX6_init 160 = .ok (.putfield 65, 3) := by decide +kernel
theorem dX6_init_163 : decode cX6_init 163 = .ok (.aload_n 0, 1) := by decide +kernel
theorem dX6_init_164 : decode cX6_init 164 = .ok (.bipush 40, 2) := by decide +kernel
theorem dX6_init_166 : decode cX6_init 166 = .ok (.newarray .int, 2) := by decide +kernel
theorem dX6_init_168 : decode cX6_init 168 = .ok (.putfield 68, 3) := by decide +kernel
theorem dX6_init_171 : decode cX6_init 171 = .ok (.return_, 1) := by decide +kernel
theorem dX6_thrown_0 : decode cX6_thrown 0 = .ok (.aload_n 0, 1) := by decide +kernel
theorem dX6_thrown_1 : decode cX6_thrown 1 = .ok (.getfield 71, 3) := by decide +kernel
theorem dX6_thrown_4 : decode cX6_thrown 4 = .ok (.ireturn, 1) := by decide +kernel
theorem dX6_holds_0 : decode cX6_holds 0 = .ok (.aload_n 0, 1) := by decide +kernel
theorem dX6_holds_1 : decode cX6_holds 1 = .ok (.iload_n 1, 1) := by decide +kernel
theorem dX6_holds_2 : decode cX6_holds 2 = .ok (.putfield 71, 3) := by decide +kernel
theorem dX6_holds_5 : decode cX6_holds 5 = .ok (.iload_n 1, 1) := by decide +kernel
theorem dX6_holds_6 : decode cX6_holds 6 = .ok (.ifCond .ne 7, 3) := by decide +kernel
theorem dX6_holds_9 : decode cX6_holds 9 = .ok (.iconst 1, 1) := by decide +kernel
theorem dX6_holds_10 : decode cX6_holds 10 = .ok (.goto 4, 3) := by decide +kernel
theorem dX6_holds_13 : decode cX6_holds 13 = .ok (.iconst 0, 1) := by decide +kernel
theorem dX6_holds_14 : decode cX6_holds 14 = .ok (.ireturn, 1) := by decide +kernel
theorem dX6_in_0 : decode cX6_in 0 = .ok (.iload_n 0, 1) := by decide +kernel
theorem dX6_in_1 : decode cX6_in 1 = .ok (.iload_n 1, 1) := by decide +kernel
theorem dX6_in_2 : decode cX6_in 2 = .ok (.if_icmp .lt 12, 3) := by decide +kernel
theorem dX6_in_5 : decode cX6_in 5 = .ok (.iload_n 0, 1) := by decide +kernel
theorem dX6_in_6 : decode cX6_in 6 = .ok (.iload_n 2, 1) := by decide +kernel
theorem dX6_in_7 : decode cX6_in 7 = .ok (.if_icmp .gt 7, 3) := by decide +kernel
theorem dX6_in_10 : decode cX6_in 10 = .ok (.iconst 1, 1) := by decide +kernel
theorem dX6_in_11 : decode cX6_in 11 = .ok (.goto 4, 3) := by decide +kernel
theorem dX6_in_14 : decode cX6_in 14 = .ok (.iconst 0, 1) := by decide +kernel
theorem dX6_in_15 : decode cX6_in 15 = .ok (.ireturn, 1) := by decide +kernel
theorem dX6_isSubject_0 : decode cX6_isSubject 0 = .ok (.iload_n 0, 1) := by decide +kernel
theorem dX6_isSubject_1 : decode cX6_isSubject 1 = .ok (.iconst 0, 1) := by decide +kernel
theorem dX6_isSubject_2 : decode cX6_isSubject 2 = .ok (.iconst 5, 1) := by decide +kernel
theorem dX6_isSubject_3 : decode cX6_isSubject 3 = .ok (.invokestatic 75, 3) := by decide +kernel
theorem dX6_isSubject_6 : decode cX6_isSubject 6 = .ok (.ireturn, 1) := by decide +kernel
theorem dX6_isVersion_0 : decode cX6_isVersion 0 = .ok (.iload_n 2, 1) := by decide +kernel
theorem dX6_isVersion_1 : decode cX6_isVersion 1 = .ok (.iconst 0, 1) := by decide +kernel
theorem dX6_isVersion_2 : decode cX6_isVersion 2 = .ok (.aload_n 0, 1) := by decide +kernel
theorem dX6_isVersion_3 : decode cX6_isVersion 3 = .ok (.getfield 44, 3) := by decide +kernel
theorem dX6_isVersion_6 : decode cX6_isVersion 6 = .ok (.iload_n 1, 1) := by decide +kernel
theorem dX6_isVersion_7 : decode cX6_isVersion 7 = .ok (.iaload, 1) := by decide +kernel
theorem dX6_isVersion_8 : decode cX6_isVersion 8 = .ok (.iconst 1, 1) := by decide +kernel
theorem dX6_isVersion_9 : decode cX6_isVersion 9 = .ok (.isub, 1) := by decide +kernel
theorem dX6_isVersion_10 : decode cX6_isVersion 10 = .ok (.invokestatic 75, 3) := by decide +kernel
theorem dX6_isVersion_13 : decode cX6_isVersion 13 = .ok (.ifCond .eq 22, 3) := by decide +kernel
theorem dX6_isVersion_16 : decode cX6_isVersion 16 = .ok (.aload_n 0, 1) := by decide +kernel
theorem dX6_isVersion_17 : decode cX6_isVersion 17 = .ok (.getfield 41, 3) := by decide +kernel
theorem dX6_isVersion_20 : decode cX6_isVersion 20 = .ok (.bipush 6, 2) := by decide +kernel
theorem dX6_isVersion_22 : decode cX6_isVersion 22 = .ok (.iload_n 1, 1) := by decide +kernel
theorem dX6_isVersion_23 : decode cX6_isVersion 23 = .ok (.imul, 1) := by decide +kernel
theorem dX6_isVersion_24 : decode cX6_isVersion 24 = .ok (.iload_n 2, 1) := by decide +kernel
theorem dX6_isVersion_25 : decode cX6_isVersion 25 = .ok (.iadd, 1) := by decide +kernel
theorem dX6_isVersion_26 : decode cX6_isVersion 26 = .ok (.iaload, 1) := by decide +kernel
theorem dX6_isVersion_27 : decode cX6_isVersion 27 = .ok (.iconst 3, 1) := by decide +kernel
theorem dX6_isVersion_28 : decode cX6_isVersion 28 = .ok (.if_icmp .eq 7, 3) := by decide +kernel
theorem dX6_isVersion_31 : decode cX6_isVersion 31 = .ok (.iconst 1, 1) := by decide +kernel
theorem dX6_isVersion_32 : decode cX6_isVersion 32 = .ok (.goto 4, 3) := by decide +kernel
theorem dX6_isVersion_35 : decode cX6_isVersion 35 = .ok (.iconst 0, 1) := by decide +kernel
theorem dX6_isVersion_36 : decode cX6_isVersion 36 = .ok (.ireturn, 1) := by decide +kernel
theorem dX6_isThereAt_0 : decode cX6_isThereAt 0 = .ok (.aload_n 0, 1) := by decide +kernel
theorem dX6_isThereAt_1 : decode cX6_isThereAt 1 = .ok (.iload_n 1, 1) := by decide +kernel
theorem dX6_isThereAt_2 : decode cX6_isThereAt 2 = .ok (.iload_n 2, 1) := by decide +kernel
theorem dX6_isThereAt_3 : decode cX6_isThereAt 3 = .ok (.invokevirtual 79, 3) := by decide +kernel
theorem dX6_isThereAt_6 : decode cX6_isThereAt 6 = .ok (.ifCond .eq 22, 3) := by decide +kernel
theorem dX6_isThereAt_9 : decode cX6_isThereAt 9 = .ok (.aload_n 0, 1) := by decide +kernel
theorem dX6_isThereAt_10 : decode cX6_isThereAt 10 = .ok (.getfield 41, 3) := by decide +kernel
theorem dX6_isThereAt_13 : decode cX6_isThereAt 13 = .ok (.bipush 6, 2) := by decide +kernel
theorem dX6_isThereAt_15 : decode cX6_isThereAt 15 = .ok (.iload_n 1, 1) := by decide +kernel
theorem dX6_isThereAt_16 : decode cX6_isThereAt 16 = .ok (.imul, 1) := by decide +kernel
theorem dX6_isThereAt_17 : decode cX6_isThereAt 17 = .ok (.iload_n 2, 1) := by decide +kernel
theorem dX6_isThereAt_18 : decode cX6_isThereAt 18 = .ok (.iadd, 1) := by decide +kernel
theorem dX6_isThereAt_19 : decode cX6_isThereAt 19 = .ok (.iaload, 1) := by decide +kernel
theorem dX6_isThereAt_20 : decode cX6_isThereAt 20 = .ok (.iconst 1, 1) := by decide +kernel
theorem dX6_isThereAt_21 : decode cX6_isThereAt 21 = .ok (.if_icmp .ne 7, 3) := by decide +kernel
theorem dX6_isThereAt_24 : decode cX6_isThereAt 24 = .ok (.iconst 1, 1) := by decide +kernel
theorem dX6_isThereAt_25 : decode cX6_isThereAt 25 = .ok (.goto 4, 3) := by decide +kernel
theorem dX6_isThereAt_28 : decode cX6_isThereAt 28 = .ok (.iconst 0, 1) := by decide +kernel
theorem dX6_isThereAt_29 : decode cX6_isThereAt 29 = .ok (.ireturn, 1) := by decide +kernel
theorem dX6_schemaOf_0 : decode cX6_schemaOf 0 = .ok (.aload_n 0, 1) := by decide +kernel
theorem dX6_schemaOf_1 : decode cX6_schemaOf 1 = .ok (.getfield 38, 3) := by decide +kernel
theorem dX6_schemaOf_4 : decode cX6_schemaOf 4 = .ok (.bipush 6, 2) := by decide +kernel
theorem dX6_schemaOf_6 : decode cX6_schemaOf 6 = .ok (.iload_n 1, 1) := by decide +kernel
theorem dX6_schemaOf_7 : decode cX6_schemaOf 7 = .ok (.bipush 10, 2) := by decide +kernel
theorem dX6_schemaOf_9 : decode cX6_schemaOf 9 = .ok (.idiv, 1) := by decide +kernel
theorem dX6_schemaOf_10 : decode cX6_schemaOf 10 = .ok (.imul, 1) := by decide +kernel
theorem dX6_schemaOf_11 : decode cX6_schemaOf 11 = .ok (.iload_n 1, 1) := by decide +kernel
theorem dX6_schemaOf_12 : decode cX6_schemaOf 12 = .ok (.bipush 10, 2) := by decide +kernel
theorem dX6_schemaOf_14 : decode cX6_schemaOf 14 = .ok (.irem, 1) := by decide +kernel
theorem dX6_schemaOf_15 : decode cX6_schemaOf 15 = .ok (.iadd, 1) := by decide +kernel
theorem dX6_schemaOf_16 : decode cX6_schemaOf 16 = .ok (.iaload, 1) := by decide +kernel
theorem dX6_schemaOf_17 : decode cX6_schemaOf 17 = .ok (.ireturn, 1) := by decide +kernel
theorem dX6_isRange_0 : decode cX6_isRange 0 = .ok (.iload_n 2, 1) := by decide +kernel
theorem dX6_isRange_1 : decode cX6_isRange 1 = .ok (.iconst 3, 1) := by decide +kernel
theorem dX6_isRange_2 : decode cX6_isRange 2 = .ok (.if_icmp .ne 12, 3) := by decide +kernel
theorem dX6_isRange_5 : decode cX6_isRange 5 = .ok (.iload_n 3, 1) := by decide +kernel
theorem dX6_isRange_6 : decode cX6_isRange 6 = .ok (.iconst 1, 1) := by decide +kernel
theorem dX6_isRange_7 : decode cX6_isRange 7 = .ok (.iconst 4, 1) := by decide +kernel
theorem dX6_isRange_8 : decode cX6_isRange 8 = .ok (.invokestatic 75, 3) := by decide +kernel
theorem dX6_isRange_11 : decode cX6_isRange 11 = .ok (.ifCond .eq 7, 3) := by decide +kernel
theorem dX6_isRange_14 : decode cX6_isRange 14 = .ok (.iconst 1, 1) := by decide +kernel
theorem dX6_isRange_15 : decode cX6_isRange 15 = .ok (.goto 4, 3) := by decide +kernel
theorem dX6_isRange_18 : decode cX6_isRange 18 = .ok (.iconst 0, 1) := by decide +kernel
theorem dX6_isRange_19 : decode cX6_isRange 19 = .ok (.istore 5, 2) := by decide +kernel
theorem dX6_isRange_21 : decode cX6_isRange 21 = .ok (.iload_n 1, 1) := by decide +kernel
theorem dX6_isRange_22 : decode cX6_isRange 22 = .ok (.iconst 0, 1) := by decide +kernel
theorem dX6_isRange_23 : decode cX6_isRange 23 = .ok (.bipush 9, 2) := by decide +kernel
theorem dX6_isRange_25 : decode cX6_isRange 25 = .ok (.invokestatic 75, 3) := by decide +kernel
theorem dX6_isRange_28 : decode cX6_isRange 28 = .ok (.ifCond .eq 38, 3) := by decide +kernel
theorem dX6_isRange_31 : decode cX6_isRange 31 = .ok (.iload_n 2, 1) := by decide +kernel
theorem dX6_isRange_32 : decode cX6_isRange 32 = .ok (.iconst 0, 1) := by decide +kernel
theorem dX6_isRange_33 : decode cX6_isRange 33 = .ok (.iconst 4, 1) := by decide +kernel
theorem dX6_isRange_34 : decode cX6_isRange 34 = .ok (.invokestatic 75, 3) := by decide +kernel
theorem dX6_isRange_37 : decode cX6_isRange 37 = .ok (.ifCond .eq 29, 3) := by decide +kernel
theorem dX6_isRange_40 : decode cX6_isRange 40 = .ok (.iload 5, 2) := by decide +kernel
theorem dX6_isRange_42 : decode cX6_isRange 42 = .ok (.ifCond .eq 24, 3) := by decide +kernel
theorem dX6_isRange_45 : decode cX6_isRange 45 = .ok (.iload 4, 2) := by decide +kernel
theorem dX6_isRange_47 : decode cX6_isRange 47 = .ok (.iconst (-1), 1) := by decide +kernel
theorem dX6_isRange_48 : decode cX6_isRange 48 = .ok (.bipush 9, 2) := by decide +kernel
theorem dX6_isRange_50 : decode cX6_isRange 50 = .ok (.invokestatic 75, 3) := by decide +kernel
theorem dX6_isRange_53 : decode cX6_isRange 53 = .ok (.ifCond .eq 13, 3) := by decide +kernel
theorem dX6_isRange_56 : decode cX6_isRange 56 = .ok (.iload 4, 2) := by decide +kernel
theorem dX6_isRange_58 : decode cX6_isRange 58 = .ok (.iload_n 1, 1) := by decide +kernel
theorem dX6_isRange_59 : decode cX6_isRange 59 = .ok (.if_icmp .eq 7, 3) := by decide +kernel
theorem dX6_isRange_62 : decode cX6_isRange 62 = .ok (.iconst 1, 1) := by decide +kernel
theorem dX6_isRange_63 : decode cX6_isRange 63 = .ok (.goto 4, 3) := by decide +kernel
theorem dX6_isRange_66 : decode cX6_isRange 66 = .ok (.iconst 0, 1) := by decide +kernel
theorem dX6_isRange_67 : decode cX6_isRange 67 = .ok (.ireturn, 1) := by decide +kernel
theorem dX6_named_0 : decode cX6_named 0 = .ok (.iconst 0, 1) := by decide +kernel
theorem dX6_named_1 : decode cX6_named 1 = .ok (.istore_n 3, 1) := by decide +kernel
theorem dX6_named_2 : decode cX6_named 2 = .ok (.iload_n 3, 1) := by decide +kernel
theorem dX6_named_3 : decode cX6_named 3 = .ok (.aload_n 0, 1) := by decide +kernel
theorem dX6_named_4 : decode cX6_named 4 = .ok (.getfield 29, 3) := by decide +kernel
theorem dX6_named_7 : decode cX6_named 7 = .ok (.iload_n 1, 1) := by decide +kernel
theorem dX6_named_8 : decode cX6_named 8 = .ok (.iaload, 1) := by decide +kernel
theorem dX6_named_9 : decode cX6_named 9 = .ok (.if_icmp .ge 25, 3) := by decide +kernel
theorem dX6_named_12 : decode cX6_named 12 = .ok (.aload_n 0, 1) := by decide +kernel
theorem dX6_named_13 : decode cX6_named 13 = .ok (.getfield 7, 3) := by decide +kernel
theorem dX6_named_16 : decode cX6_named 16 = .ok (.iconst 5, 1) := by decide +kernel
theorem dX6_named_17 : decode cX6_named 17 = .ok (.iload_n 1, 1) := by decide +kernel
theorem dX6_named_18 : decode cX6_named 18 = .ok (.imul, 1) := by decide +kernel
theorem dX6_named_19 : decode cX6_named 19 = .ok (.iload_n 3, 1) := by decide +kernel
theorem dX6_named_20 : decode cX6_named 20 = .ok (.iadd, 1) := by decide +kernel
theorem dX6_named_21 : decode cX6_named 21 = .ok (.iaload, 1) := by decide +kernel
theorem dX6_named_22 : decode cX6_named 22 = .ok (.iload_n 2, 1) := by decide +kernel
theorem dX6_named_23 : decode cX6_named 23 = .ok (.if_icmp .ne 5, 3) := by decide +kernel
theorem dX6_named_26 : decode cX6_named 26 = .ok (.iload_n 3, 1) := by decide +kernel
theorem dX6_named_27 : decode cX6_named 27 = .ok (.ireturn, 1) := by decide +kernel
theorem dX6_named_28 : decode cX6_named 28 = .ok (.iinc 3 1, 3) := by decide +kernel
theorem dX6_named_31 : decode cX6_named 31 = .ok (.goto (-29), 3) := by decide +kernel
theorem dX6_named_34 : decode cX6_named 34 = .ok (.iconst (-1), 1) := by decide +kernel
theorem dX6_named_35 : decode cX6_named 35 = .ok (.ireturn, 1) := by decide +kernel
theorem dX6_errorOfField_0 : decode cX6_errorOfField 0 = .ok (.aload_n 0, 1) := by decide +kernel
theorem dX6_errorOfField_1 : decode cX6_errorOfField 1 = .ok (.iload_n 1, 1) := by decide +kernel
theorem dX6_errorOfField_2 : decode cX6_errorOfField 2 = .ok (.iload_n 2, 1) := by decide +kernel
theorem dX6_errorOfField_3 : decode cX6_errorOfField 3 = .ok (.iload_n 3, 1) := by decide +kernel
theorem dX6_errorOfField_4 : decode cX6_errorOfField 4 = .ok (.iload 4, 2) := by decide +kernel
theorem dX6_errorOfField_6 : decode cX6_errorOfField 6 = .ok (.invokevirtual 83, 3) := by decide +kernel
theorem dX6_errorOfField_9 : decode cX6_errorOfField 9 = .ok (.ifCond .ne 5, 3) := by decide +kernel
theorem dX6_errorOfField_12 : decode cX6_errorOfField 12 = .ok (.iconst 1, 1) := by decide +kernel
theorem dX6_errorOfField_13 : decode cX6_errorOfField 13 = .ok (.ireturn, 1) := by decide +kernel
theorem dX6_errorOfField_14 : decode cX6_errorOfField 14 = .ok (.iload_n 2, 1) := by decide +kernel
theorem dX6_errorOfField_15 : decode cX6_errorOfField 15 = .ok (.iconst 4, 1) := by decide +kernel
theorem dX6_errorOfField_16 : decode cX6_errorOfField 16 = .ok (.if_icmp .ne 7, 3) := by decide +kernel
theorem dX6_errorOfField_19 : decode cX6_errorOfField 19 = .ok (.iconst 1, 1) := by decide +kernel
theorem dX6_errorOfField_20 : decode cX6_errorOfField 20 = .ok (.goto 4, 3) := by decide +kernel
theorem dX6_errorOfField_23 : decode cX6_errorOfField 23 = .ok (.iconst 0, 1) := by decide +kernel
theorem dX6_errorOfField_24 : decode cX6_errorOfField 24 = .ok (.istore 5, 2) := by decide +kernel
theorem dX6_errorOfField_26 : decode cX6_errorOfField 26 = .ok (.iload 5, 2) := by decide +kernel
theorem dX6_errorOfField_28 : decode cX6_errorOfField 28 = .ok (.ifCond .eq 30, 3) := by decide +kernel
theorem dX6_errorOfField_31 : decode cX6_errorOfField 31 = .ok (.iload_n 3, 1) := by decide +kernel
theorem dX6_errorOfField_32 : decode cX6_errorOfField 32 = .ok (.iconst 0, 1) := by decide +kernel
theorem dX6_errorOfField_33 : decode cX6_errorOfField 33 = .ok (.bipush 59, 2) := by decide +kernel
theorem dX6_errorOfField_35 : decode cX6_errorOfField 35 = .ok (.invokestatic 75, 3) := by decide +kernel
theorem dX6_errorOfField_38 : decode cX6_errorOfField 38 = .ok (.ifCond .eq 18, 3) := by decide +kernel
theorem dX6_errorOfField_41 : decode cX6_errorOfField 41 = .ok (.aload_n 0, 1) := by decide +kernel
theorem dX6_errorOfField_42 : decode cX6_errorOfField 42 = .ok (.iload_n 3, 1) := by decide +kernel
theorem dX6_errorOfField_43 : decode cX6_errorOfField 43 = .ok (.bipush 10, 2) := by decide +kernel
theorem dX6_errorOfField_45 : decode cX6_errorOfField 45 = .ok (.idiv, 1) := by decide +kernel
theorem dX6_errorOfField_46 : decode cX6_errorOfField 46 = .ok (.iload_n 3, 1) := by decide +kernel
theorem dX6_errorOfField_47 : decode cX6_errorOfField 47 = .ok (.bipush 10, 2) := by decide +kernel
theorem dX6_errorOfField_49 : decode cX6_errorOfField 49 = .ok (.irem, 1) := by decide +kernel
theorem dX6_errorOfField_50 : decode cX6_errorOfField 50 = .ok (.invokevirtual 87, 3) := by decide +kernel
theorem dX6_errorOfField_53 : decode cX6_errorOfField 53 = .ok (.ifCond .ne 5, 3) := by decide +kernel
theorem dX6_errorOfField_56 : decode cX6_errorOfField 56 = .ok (.iconst 2, 1) := by decide +kernel
theorem dX6_errorOfField_57 : decode cX6_errorOfField 57 = .ok (.ireturn, 1) := by decide +kernel
theorem dX6_errorOfField_58 : decode cX6_errorOfField 58 = .ok (.iload 5, 2) := by decide +kernel
theorem dX6_errorOfField_60 : decode cX6_errorOfField 60 = .ok (.ifCond .eq 16, 3) := by decide +kernel
theorem dX6_errorOfField_63 : decode cX6_errorOfField 63 = .ok (.aload_n 0, 1) := by decide +kernel
theorem dX6_errorOfField_64 : decode cX6_errorOfField 64 = .ok (.getfield 32, 3) := by decide +kernel
theorem dX6_errorOfField_67 : decode cX6_errorOfField 67 = .ok (.aload_n 0, 1) := by decide +kernel
theorem dX6_errorOfField_68 : decode cX6_errorOfField 68 = .ok (.iload_n 3, 1) := by decide +kernel
theorem dX6_errorOfField_69 : decode cX6_errorOfField 69 = .ok (.invokevirtual 90, 3) := by decide +kernel
theorem dX6_errorOfField_72 : decode cX6_errorOfField 72 = .ok (.iaload, 1) := by decide +kernel
theorem dX6_errorOfField_73 : decode cX6_errorOfField 73 = .ok (.goto 4, 3) := by decide +kernel
theorem dX6_errorOfField_76 : decode cX6_errorOfField 76 = .ok (.iconst 1, 1) := by decide +kernel
theorem dX6_errorOfField_77 : decode cX6_errorOfField 77 = .ok (.istore 6, 2) := by decide +kernel
theorem dX6_errorOfField_79 : decode cX6_errorOfField 79 = .ok (.aload_n 0, 1) := by decide +kernel
theorem dX6_errorOfField_80 : decode cX6_errorOfField 80 = .ok (.getfield 29, 3) := by decide +kernel
theorem dX6_errorOfField_83 : decode cX6_errorOfField 83 = .ok (.bipush 36, 2) := by decide +kernel
theorem dX6_errorOfField_85 : decode cX6_errorOfField 85 = .ok (.iaload, 1) := by decide +kernel
theorem dX6_errorOfField_86 : decode cX6_errorOfField 86 = .ok (.iconst 5, 1) := by decide +kernel
theorem dX6_errorOfField_87 : decode cX6_errorOfField 87 = .ok (.if_icmp .eq 29, 3) := by decide +kernel
theorem dX6_errorOfField_90 : decode cX6_errorOfField 90 = .ok (.aload_n 0, 1) := by decide +kernel
theorem dX6_errorOfField_91 : decode cX6_errorOfField 91 = .ok (.bipush 36, 2) := by decide +kernel
theorem dX6_errorOfField_93 : decode cX6_errorOfField 93 = .ok (.iload_n 1, 1) := by decide +kernel
theorem dX6_errorOfField_94 : decode cX6_errorOfField 94 = .ok (.invokevirtual 94, 3) := by decide +kernel
theorem dX6_errorOfField_97 : decode cX6_errorOfField 97 = .ok (.iconst (-1), 1) := by decide +kernel
theorem dX6_errorOfField_98 : decode cX6_errorOfField 98 = .ok (.if_icmp .ne 18, 3) := by decide +kernel
theorem dX6_errorOfField_101 : decode cX6_errorOfField 101 = .ok (.aload_n 0, 1) := by decide +kernel
theorem dX6_errorOfField_102 : decode cX6_errorOfField 102 = .ok (.getfield 32, 3) := by decide +kernel
theorem dX6_errorOfField_105 : decode cX6_errorOfField 105 = .ok (.bipush 36, 2) := by decide +kernel
theorem dX6_errorOfField_107 : decode cX6_errorOfField 107 = .ok (.iaload, 1) := by decide +kernel
theorem dX6_errorOfField_108 : decode cX6_errorOfField 108 = .ok (.iload 6, 2) := by decide +kernel
theorem dX6_errorOfField_110 : decode cX6_errorOfField 110 = .ok (.iadd, 1) := by decide +kernel
theorem dX6_errorOfField_111 : decode cX6_errorOfField 111 = .ok (.bipush 20, 2) := by decide +kernel
theorem dX6_errorOfField_113 : decode cX6_errorOfField 113 = .ok (.if_icmp .le 7, 3) := by decide +kernel
theorem dX6_errorOfField_116 : decode cX6_errorOfField 116 = .ok (.iconst 3, 1) := by decide +kernel
theorem dX6_errorOfField_117 : decode cX6_errorOfField 117 = .ok (.goto 4, 3) := by decide +kernel
theorem dX6_errorOfField_120 : decode cX6_errorOfField 120 = .ok (.iconst 0, 1) := by decide +kernel
theorem dX6_errorOfField_121 : decode cX6_errorOfField 121 = .ok (.ireturn, 1) := by decide +kernel
theorem dX6_field_0 : decode cX6_field 0 = .ok (.aload_n 0, 1) := by decide +kernel
theorem dX6_field_1 : decode cX6_field 1 = .ok (.aload_n 0, 1) := by decide +kernel
theorem dX6_field_2 : decode cX6_field 2 = .ok (.iload_n 1, 1) := by decide +kernel
theorem dX6_field_3 : decode cX6_field 3 = .ok (.iload_n 2, 1) := by decide +kernel
theorem dX6_field_4 : decode cX6_field 4 = .ok (.iload_n 3, 1) := by decide +kernel
theorem dX6_field_5 : decode cX6_field 5 = .ok (.iload 4, 2) := by decide +kernel
theorem dX6_field_7 : decode cX6_field 7 = .ok (.invokevirtual 98, 3) := by decide +kernel
theorem dX6_field_10 : decode cX6_field 10 = .ok (.invokevirtual 102, 3) := by decide +kernel
theorem dX6_field_13 : decode cX6_field 13 = .ok (.ifCond .ne 5, 3) := by decide +kernel
theorem dX6_field_16 : decode cX6_field 16 = .ok (.iconst 0, 1) := by decide +kernel
theorem dX6_field_17 : decode cX6_field 17 = .ok (.ireturn, 1) := by decide +kernel
theorem dX6_field_18 : decode cX6_field 18 = .ok (.sipush 180, 3) := by decide +kernel
theorem dX6_field_21 : decode cX6_field 21 = .ok (.aload_n 0, 1) := by decide +kernel
theorem dX6_field_22 : decode cX6_field 22 = .ok (.getfield 29, 3) := by decide +kernel
theorem dX6_field_25 : decode cX6_field 25 = .ok (.bipush 36, 2) := by decide +kernel
theorem dX6_field_27 : decode cX6_field 27 = .ok (.iaload, 1) := by decide +kernel
theorem dX6_field_28 : decode cX6_field 28 = .ok (.iadd, 1) := by decide +kernel
theorem dX6_field_29 : decode cX6_field 29 = .ok (.istore 5, 2) := by decide +kernel
theorem dX6_field_31 : decode cX6_field 31 = .ok (.aload_n 0, 1) := by decide +kernel
theorem dX6_field_32 : decode cX6_field 32 = .ok (.getfield 7, 3) := by decide +kernel
theorem dX6_field_35 : decode cX6_field 35 = .ok (.iload 5, 2) := by decide +kernel
theorem dX6_field_37 : decode cX6_field 37 = .ok (.iload_n 1, 1) := by decide +kernel
theorem dX6_field_38 : decode cX6_field 38 = .ok (.iastore, 1) := by decide +kernel
theorem dX6_field_39 : decode cX6_field 39 = .ok (.aload_n 0, 1) := by decide +kernel
theorem dX6_field_40 : decode cX6_field 40 = .ok (.getfield 13, 3) := by decide +kernel
theorem dX6_field_43 : decode cX6_field 43 = .ok (.iload 5, 2) := by decide +kernel
theorem dX6_field_45 : decode cX6_field 45 = .ok (.iload_n 2, 1) := by decide +kernel
theorem dX6_field_46 : decode cX6_field 46 = .ok (.iastore, 1) := by decide +kernel
theorem dX6_field_47 : decode cX6_field 47 = .ok (.aload_n 0, 1) := by decide +kernel
theorem dX6_field_48 : decode cX6_field 48 = .ok (.getfield 16, 3) := by decide +kernel
theorem dX6_field_51 : decode cX6_field 51 = .ok (.iload 5, 2) := by decide +kernel
theorem dX6_field_53 : decode cX6_field 53 = .ok (.iload_n 2, 1) := by decide +kernel
theorem dX6_field_54 : decode cX6_field 54 = .ok (.iconst 2, 1) := by decide +kernel
theorem dX6_field_55 : decode cX6_field 55 = .ok (.if_icmp .le 7, 3) := by decide +kernel
theorem dX6_field_58 : decode cX6_field 58 = .ok (.iload_n 3, 1) := by decide +kernel
theorem dX6_field_59 : decode cX6_field 59 = .ok (.goto 4, 3) := by decide +kernel
theorem dX6_field_62 : decode cX6_field 62 = .ok (.iconst 0, 1) := by decide +kernel
theorem dX6_field_63 : decode cX6_field 63 = .ok (.iastore, 1) := by decide +kernel
theorem dX6_field_64 : decode cX6_field 64 = .ok (.aload_n 0, 1) := by decide +kernel
theorem dX6_field_65 : decode cX6_field 65 = .ok (.getfield 19, 3) := by decide +kernel
theorem dX6_field_68 : decode cX6_field 68 = .ok (.iload 5, 2) := by decide +kernel
theorem dX6_field_70 : decode cX6_field 70 = .ok (.iload 4, 2) := by decide +kernel
theorem dX6_field_72 : decode cX6_field 72 = .ok (.iastore, 1) := by decide +kernel
theorem dX6_field_73 : decode cX6_field 73 = .ok (.aload_n 0, 1) := by decide +kernel
theorem dX6_field_74 : decode cX6_field 74 = .ok (.getfield 22, 3) := by decide +kernel
theorem dX6_field_77 : decode cX6_field 77 = .ok (.iload 5, 2) := by decide +kernel
theorem dX6_field_79 : decode cX6_field 79 = .ok (.iconst 0, 1) := by decide +kernel
theorem dX6_field_80 : decode cX6_field 80 = .ok (.bastore, 1) := by decide +kernel
theorem dX6_field_81 : decode cX6_field 81 = .ok (.aload_n 0, 1) := by decide +kernel
theorem dX6_field_82 : decode cX6_field 82 = .ok (.getfield 26, 3) := by decide +kernel
theorem dX6_field_85 : decode cX6_field 85 = .ok (.iload 5, 2) := by decide +kernel
theorem dX6_field_87 : decode cX6_field 87 = .ok (.iconst 0, 1) := by decide +kernel
theorem dX6_field_88 : decode cX6_field 88 = .ok (.iastore, 1) := by decide +kernel
theorem dX6_field_89 : decode cX6_field 89 = .ok (.aload_n 0, 1) := by decide +kernel
theorem dX6_field_90 : decode cX6_field 90 = .ok (.getfield 32, 3) := by decide +kernel
theorem dX6_field_93 : decode cX6_field 93 = .ok (.bipush 36, 2) := by decide +kernel
theorem dX6_field_95 : decode cX6_field 95 = .ok (.dup2, 1) := by decide +kernel
theorem dX6_field_96 : decode cX6_field 96 = .ok (.iaload, 1) := by decide +kernel
theorem dX6_field_97 : decode cX6_field 97 = .ok (.iload_n 2, 1) := by decide +kernel
theorem dX6_field_98 : decode cX6_field 98 = .ok (.iconst 4, 1) := by decide +kernel
theorem dX6_field_99 : decode cX6_field 99 = .ok (.if_icmp .ne 16, 3) := by decide +kernel
theorem dX6_field_102 : decode cX6_field 102 = .ok (.aload_n 0, 1) := by decide +kernel
theorem dX6_field_103 : decode cX6_field 103 = .ok (.getfield 32, 3) := by decide +kernel
theorem dX6_field_106 : decode cX6_field 106 = .ok (.aload_n 0, 1) := by decide +kernel
theorem dX6_field_107 : decode cX6_field 107 = .ok (.iload_n 3, 1) := by decide +kernel
theorem dX6_field_108 : decode cX6_field 108 = .ok (.invokevirtual 90, 3) := by decide +kernel
theorem dX6_field_111 : decode cX6_field 111 = .ok (.iaload, 1) := by decide +kernel
theorem dX6_field_112 : decode cX6_field 112 = .ok (.goto 4, 3) := by decide +kernel
theorem dX6_field_115 : decode cX6_field 115 = .ok (.iconst 1, 1) := by decide +kernel
theorem dX6_field_116 : decode cX6_field 116 = .ok (.iadd, 1) := by decide +kernel
theorem dX6_field_117 : decode cX6_field 117 = .ok (.iastore, 1) := by decide +kernel
theorem dX6_field_118 : decode cX6_field 118 = .ok (.aload_n 0, 1) := by decide +kernel
theorem dX6_field_119 : decode cX6_field 119 = .ok (.getfield 29, 3) := by decide +kernel
theorem dX6_field_122 : decode cX6_field 122 = .ok (.bipush 36, 2) := by decide +kernel
theorem dX6_field_124 : decode cX6_field 124 = .ok (.dup2, 1) := by decide +kernel
theorem dX6_field_125 : decode cX6_field 125 = .ok (.iaload, 1) := by decide +kernel
theorem dX6_field_126 : decode cX6_field 126 = .ok (.iconst 1, 1) := by decide +kernel
theorem dX6_field_127 : decode cX6_field 127 = .ok (.iadd, 1) := by decide +kernel
theorem dX6_field_128 : decode cX6_field 128 = .ok (.iastore, 1) := by decide +kernel
theorem dX6_field_129 : decode cX6_field 129 = .ok (.aload_n 0, 1) := by decide +kernel
theorem dX6_field_130 : decode cX6_field 130 = .ok (.getfield 29, 3) := by decide +kernel
theorem dX6_field_133 : decode cX6_field 133 = .ok (.bipush 36, 2) := by decide +kernel
theorem dX6_field_135 : decode cX6_field 135 = .ok (.iaload, 1) := by decide +kernel
theorem dX6_field_136 : decode cX6_field 136 = .ok (.ireturn, 1) := by decide +kernel
theorem dX6_isValue_0 : decode cX6_isValue 0 = .ok (.aload_n 0, 1) := by decide +kernel
theorem dX6_isValue_1 : decode cX6_isValue 1 = .ok (.getfield 13, 3) := by decide +kernel
theorem dX6_isValue_4 : decode cX6_isValue 4 = .ok (.iload_n 1, 1) := by decide +kernel
theorem dX6_isValue_5 : decode cX6_isValue 5 = .ok (.iaload, 1) := by decide +kernel
theorem dX6_isValue_6 : decode cX6_isValue 6 = .ok (.istore_n 3, 1) := by decide +kernel
theorem dX6_isValue_7 : decode cX6_isValue 7 = .ok (.iload_n 3, 1) := by decide +kernel
theorem dX6_isValue_8 : decode cX6_isValue 8 = .ok (.iconst 2, 1) := by decide +kernel
theorem dX6_isValue_9 : decode cX6_isValue 9 = .ok (.if_icmp .lt 28, 3) := by decide +kernel
theorem dX6_isValue_12 : decode cX6_isValue 12 = .ok (.iload_n 2, 1) := by decide +kernel
theorem dX6_isValue_13 : decode cX6_isValue 13 = .ok (.iconst 0, 1) := by decide +kernel
theorem dX6_isValue_14 : decode cX6_isValue 14 = .ok (.iload_n 3, 1) := by decide +kernel
theorem dX6_isValue_15 : decode cX6_isValue 15 = .ok (.iconst 2, 1) := by decide +kernel
theorem dX6_isValue_16 : decode cX6_isValue 16 = .ok (.if_icmp .ne 7, 3) := by decide +kernel
theorem dX6_isValue_19 : decode cX6_isValue 19 = .ok (.iconst 1, 1) := by decide +kernel
theorem dX6_isValue_20 : decode cX6_isValue 20 = .ok (.goto 11, 3) := by decide +kernel
theorem dX6_isValue_23 : decode cX6_isValue 23 = .ok (.aload_n 0, 1) := by decide +kernel
theorem dX6_isValue_24 : decode cX6_isValue 24 = .ok (.getfield 16, 3) := by decide +kernel
theorem dX6_isValue_27 : decode cX6_isValue 27 = .ok (.iload_n 1, 1) := by decide +kernel
theorem dX6_isValue_28 : decode cX6_isValue 28 = .ok (.iaload, 1) := by decide +kernel
theorem dX6_isValue_29 : decode cX6_isValue 29 = .ok (.iconst 1, 1) := by decide +kernel
theorem dX6_isValue_30 : decode cX6_isValue 30 = .ok (.isub, 1) := by decide +kernel
theorem dX6_isValue_31 : decode cX6_isValue 31 = .ok (.invokestatic 75, 3) := by decide +kernel
theorem dX6_isValue_34 : decode cX6_isValue 34 = .ok (.ifCond .eq 7, 3) := by decide +kernel
theorem dX6_isValue_37 : decode cX6_isValue 37 = .ok (.iconst 1, 1) := by decide +kernel
theorem dX6_isValue_38 : decode cX6_isValue 38 = .ok (.goto 4, 3) := by decide +kernel
theorem dX6_isValue_41 : decode cX6_isValue 41 = .ok (.iconst 0, 1) := by decide +kernel
theorem dX6_isValue_42 : decode cX6_isValue 42 = .ok (.ireturn, 1) := by decide +kernel
theorem dX6_byDefault_0 : decode cX6_byDefault 0 = .ok (.sipush 180, 3) := by decide +kernel
theorem dX6_byDefault_3 : decode cX6_byDefault 3 = .ok (.aload_n 0, 1) := by decide +kernel
theorem dX6_byDefault_4 : decode cX6_byDefault 4 = .ok (.getfield 29, 3) := by decide +kernel
theorem dX6_byDefault_7 : decode cX6_byDefault 7 = .ok (.bipush 36, 2) := by decide +kernel
theorem dX6_byDefault_9 : decode cX6_byDefault 9 = .ok (.iaload, 1) := by decide +kernel
theorem dX6_byDefault_10 : decode cX6_byDefault 10 = .ok (.iadd, 1) := by decide +kernel
theorem dX6_byDefault_11 : decode cX6_byDefault 11 = .ok (.iconst 1, 1) := by decide +kernel
theorem dX6_byDefault_12 : decode cX6_byDefault 12 = .ok (.isub, 1) := by decide +kernel
theorem dX6_byDefault_13 : decode cX6_byDefault 13 = .ok (.istore_n 2, 1) := by decide +kernel
theorem dX6_byDefault_14 : decode cX6_byDefault 14 = .ok (.aload_n 0, 1) := by decide +kernel
theorem dX6_byDefault_15 : decode cX6_byDefault 15 = .ok (.aload_n 0, 1) := by decide +kernel
theorem dX6_byDefault_16 : decode cX6_byDefault 16 = .ok (.getfield 29, 3) := by decide +kernel
theorem dX6_byDefault_19 : decode cX6_byDefault 19 = .ok (.bipush 36, 2) := by decide +kernel
theorem dX6_byDefault_21 : decode cX6_byDefault 21 = .ok (.iaload, 1) := by decide +kernel
theorem dX6_byDefault_22 : decode cX6_byDefault 22 = .ok (.ifCond .eq 13, 3) := by decide +kernel
theorem dX6_byDefault_25 : decode cX6_byDefault 25 = .ok (.aload_n 0, 1) := by decide +kernel
theorem dX6_byDefault_26 : decode cX6_byDefault 26 = .ok (.getfield 13, 3) := by decide +kernel
theorem dX6_byDefault_29 : decode cX6_byDefault 29 = .ok (.iload_n 2, 1) := by decide +kernel
theorem dX6_byDefault_30 : decode cX6_byDefault 30 = .ok (.iaload, 1) := by decide +kernel
theorem dX6_byDefault_31 : decode cX6_byDefault 31 = .ok (.iconst 4, 1) := by decide +kernel
theorem dX6_byDefault_32 : decode cX6_byDefault 32 = .ok (.if_icmp .ne 7, 3) := by decide +kernel
theorem dX6_byDefault_35 : decode cX6_byDefault 35 = .ok (.iconst 1, 1) := by decide +kernel
theorem dX6_byDefault_36 : decode cX6_byDefault 36 = .ok (.goto 17, 3) := by decide +kernel
theorem dX6_byDefault_39 : decode cX6_byDefault 39 = .ok (.aload_n 0, 1) := by decide +kernel
theorem dX6_byDefault_40 : decode cX6_byDefault 40 = .ok (.iload_n 2, 1) := by decide +kernel
theorem dX6_byDefault_41 : decode cX6_byDefault 41 = .ok (.iload_n 1, 1) := by decide +kernel
theorem dX6_byDefault_42 : decode cX6_byDefault 42 = .ok (.invokevirtual 106, 3) := by decide +kernel
theorem dX6_byDefault_45 : decode cX6_byDefault 45 = .ok (.ifCond .eq 7, 3) := by decide +kernel
theorem dX6_byDefault_48 : decode cX6_byDefault 48 = .ok (.iconst 0, 1) := by decide +kernel
theorem dX6_byDefault_49 : decode cX6_byDefault 49 = .ok (.goto 4, 3) := by decide +kernel
theorem dX6_byDefault_52 : decode cX6_byDefault 52 = .ok (.iconst 2, 1) := by decide +kernel
theorem dX6_byDefault_53 : decode cX6_byDefault 53 = .ok (.invokevirtual 102, 3) := by decide +kernel
theorem dX6_byDefault_56 : decode cX6_byDefault 56 = .ok (.ifCond .ne 5, 3) := by decide +kernel
theorem dX6_byDefault_59 : decode cX6_byDefault 59 = .ok (.iconst 0, 1) := by decide +kernel
theorem dX6_byDefault_60 : decode cX6_byDefault 60 = .ok (.ireturn, 1) := by decide +kernel
theorem dX6_byDefault_61 : decode cX6_byDefault 61 = .ok (.aload_n 0, 1) := by decide +kernel
theorem dX6_byDefault_62 : decode cX6_byDefault 62 = .ok (.getfield 22, 3) := by decide +kernel
theorem dX6_byDefault_65 : decode cX6_byDefault 65 = .ok (.iload_n 2, 1) := by decide +kernel
theorem dX6_byDefault_66 : decode cX6_byDefault 66 = .ok (.iconst 1, 1) := by decide +kernel
theorem dX6_byDefault_67 : decode cX6_byDefault 67 = .ok (.bastore, 1) := by decide +kernel
theorem dX6_byDefault_68 : decode cX6_byDefault 68 = .ok (.aload_n 0, 1) := by decide +kernel
theorem dX6_byDefault_69 : decode cX6_byDefault 69 = .ok (.getfield 26, 3) := by decide +kernel
theorem dX6_byDefault_72 : decode cX6_byDefault 72 = .ok (.iload_n 2, 1) := by decide +kernel
theorem dX6_byDefault_73 : decode cX6_byDefault 73 = .ok (.iload_n 1, 1) := by decide +kernel
theorem dX6_byDefault_74 : decode cX6_byDefault 74 = .ok (.iastore, 1) := by decide +kernel
theorem dX6_byDefault_75 : decode cX6_byDefault 75 = .ok (.aload_n 0, 1) := by decide +kernel
theorem dX6_byDefault_76 : decode cX6_byDefault 76 = .ok (.getfield 7, 3) := by decide +kernel
theorem dX6_byDefault_79 : decode cX6_byDefault 79 = .ok (.iload_n 2, 1) := by decide +kernel
theorem dX6_byDefault_80 : decode cX6_byDefault 80 = .ok (.iaload, 1) := by decide +kernel
theorem dX6_byDefault_81 : decode cX6_byDefault 81 = .ok (.ireturn, 1) := by decide +kernel
theorem dX6_empties_0 : decode cX6_empties 0 = .ok (.aload_n 0, 1) := by decide +kernel
theorem dX6_empties_1 : decode cX6_empties 1 = .ok (.getfield 29, 3) := by decide +kernel
theorem dX6_empties_4 : decode cX6_empties 4 = .ok (.bipush 36, 2) := by decide +kernel
theorem dX6_empties_6 : decode cX6_empties 6 = .ok (.iconst 0, 1) := by decide +kernel
theorem dX6_empties_7 : decode cX6_empties 7 = .ok (.iastore, 1) := by decide +kernel
theorem dX6_empties_8 : decode cX6_empties 8 = .ok (.aload_n 0, 1) := by decide +kernel
theorem dX6_empties_9 : decode cX6_empties 9 = .ok (.getfield 32, 3) := by decide +kernel
theorem dX6_empties_12 : decode cX6_empties 12 = .ok (.bipush 36, 2) := by decide +kernel
theorem dX6_empties_14 : decode cX6_empties 14 = .ok (.iconst 0, 1) := by decide +kernel
theorem dX6_empties_15 : decode cX6_empties 15 = .ok (.iastore, 1) := by decide +kernel
theorem dX6_empties_16 : decode cX6_empties 16 = .ok (.return_, 1) := by decide +kernel
theorem dX6_discard_0 : decode cX6_discard 0 = .ok (.aload_n 0, 1) := by decide +kernel
theorem dX6_discard_1 : decode cX6_discard 1 = .ok (.iconst 0, 1) := by decide +kernel
theorem dX6_discard_2 : decode cX6_discard 2 = .ok (.putfield 71, 3) := by decide +kernel
theorem dX6_discard_5 : decode cX6_discard 5 = .ok (.aload_n 0, 1) := by decide +kernel
theorem dX6_discard_6 : decode cX6_discard 6 = .ok (.getfield 29, 3) := by decide +kernel
theorem dX6_discard_9 : decode cX6_discard 9 = .ok (.bipush 36, 2) := by decide +kernel
theorem dX6_discard_11 : decode cX6_discard 11 = .ok (.iaload, 1) := by decide +kernel
theorem dX6_discard_12 : decode cX6_discard 12 = .ok (.istore_n 1, 1) := by decide +kernel
theorem dX6_discard_13 : decode cX6_discard 13 = .ok (.aload_n 0, 1) := by decide +kernel
theorem dX6_discard_14 : decode cX6_discard 14 = .ok (.invokevirtual 109, 3) := by decide +kernel
theorem dX6_discard_17 : decode cX6_discard 17 = .ok (.iload_n 1, 1) := by decide +kernel
theorem dX6_discard_18 : decode cX6_discard 18 = .ok (.ireturn, 1) := by decide +kernel
theorem dX6_isLike_0 : decode cX6_isLike 0 = .ok (.aload_n 0, 1) := by decide +kernel
theorem dX6_isLike_1 : decode cX6_isLike 1 = .ok (.getfield 29, 3) := by decide +kernel
theorem dX6_isLike_4 : decode cX6_isLike 4 = .ok (.iload_n 1, 1) := by decide +kernel
theorem dX6_isLike_5 : decode cX6_isLike 5 = .ok (.iaload, 1) := by decide +kernel
theorem dX6_isLike_6 : decode cX6_isLike 6 = .ok (.aload_n 0, 1) := by decide +kernel
theorem dX6_isLike_7 : decode cX6_isLike 7 = .ok (.getfield 29, 3) := by decide +kernel
theorem dX6_isLike_10 : decode cX6_isLike 10 = .ok (.bipush 36, 2) := by decide +kernel
theorem dX6_isLike_12 : decode cX6_isLike 12 = .ok (.iaload, 1) := by decide +kernel
theorem dX6_isLike_13 : decode cX6_isLike 13 = .ok (.if_icmp .eq 5, 3) := by decide +kernel
theorem dX6_isLike_16 : decode cX6_isLike 16 = .ok (.iconst 0, 1) := by decide +kernel
theorem dX6_isLike_17 : decode cX6_isLike 17 = .ok (.ireturn, 1) := by decide +kernel
theorem dX6_isLike_18 : decode cX6_isLike 18 = .ok (.iconst 0, 1) := by decide +kernel
theorem dX6_isLike_19 : decode cX6_isLike 19 = .ok (.istore_n 2, 1) := by decide +kernel
theorem dX6_isLike_20 : decode cX6_isLike 20 = .ok (.iload_n 2, 1) := by decide +kernel
theorem dX6_isLike_21 : decode cX6_isLike 21 = .ok (.aload_n 0, 1) := by decide +kernel
theorem dX6_isLike_22 : decode cX6_isLike 22 = .ok (.getfield 29, 3) := by decide +kernel
theorem dX6_isLike_25 : decode cX6_isLike 25 = .ok (.iload_n 1, 1) := by decide +kernel
theorem dX6_isLike_26 : decode cX6_isLike 26 = .ok (.iaload, 1) := by decide +kernel
theorem dX6_isLike_27 : decode cX6_isLike 27 = .ok (.if_icmp .ge 132, 3) := by decide +kernel
theorem dX6_isLike_30 : decode cX6_isLike 30 = .ok (.iconst 5, 1) := by decide +kernel
theorem dX6_isLike_31 : decode cX6_isLike 31 = .ok (.iload_n 1, 1) := by decide +kernel
theorem dX6_isLike_32 : decode cX6_isLike 32 = .ok (.imul, 1) := by decide +kernel
theorem dX6_isLike_33 : decode cX6_isLike 33 = .ok (.iload_n 2, 1) := by decide +kernel
theorem dX6_isLike_34 : decode cX6_isLike 34 = .ok (.iadd, 1) := by decide +kernel
theorem dX6_isLike_35 : decode cX6_isLike 35 = .ok (.istore_n 3, 1) := by decide +kernel
theorem dX6_isLike_36 : decode cX6_isLike 36 = .ok (.sipush 180, 3) := by decide +kernel
theorem dX6_isLike_39 : decode cX6_isLike 39 = .ok (.iload_n 2, 1) := by decide +kernel
theorem dX6_isLike_40 : decode cX6_isLike 40 = .ok (.iadd, 1) := by decide +kernel
theorem dX6_isLike_41 : decode cX6_isLike 41 = .ok (.istore 4, 2) := by decide +kernel
theorem dX6_isLike_43 : decode cX6_isLike 43 = .ok (.aload_n 0, 1) := by decide +kernel
theorem dX6_isLike_44 : decode cX6_isLike 44 = .ok (.getfield 7, 3) := by decide +kernel
theorem dX6_isLike_47 : decode cX6_isLike 47 = .ok (.iload_n 3, 1) := by decide +kernel
theorem dX6_isLike_48 : decode cX6_isLike 48 = .ok (.iaload, 1) := by decide +kernel
theorem dX6_isLike_49 : decode cX6_isLike 49 = .ok (.aload_n 0, 1) := by decide +kernel
theorem dX6_isLike_50 : decode cX6_isLike 50 = .ok (.getfield 7, 3) := by decide +kernel
theorem dX6_isLike_53 : decode cX6_isLike 53 = .ok (.iload 4, 2) := by decide +kernel
theorem dX6_isLike_55 : decode cX6_isLike 55 = .ok (.iaload, 1) := by decide +kernel
theorem dX6_isLike_56 : decode cX6_isLike 56 = .ok (.if_icmp .ne 55, 3) := by decide +kernel
theorem dX6_isLike_59 : decode cX6_isLike 59 = .ok (.aload_n 0, 1) := by decide +kernel
theorem dX6_isLike_60 : decode cX6_isLike 60 = .ok (.getfield 13, 3) := by decide +kernel
theorem dX6_isLike_63 : decode cX6_isLike 63 = .ok (.iload_n 3, 1) := by decide +kernel
theorem dX6_isLike_64 : decode cX6_isLike 64 = .ok (.iaload, 1) := by decide +kernel
theorem dX6_isLike_65 : decode cX6_isLike 65 = .ok (.aload_n 0, 1) := by decide +kernel
theorem dX6_isLike_66 : decode cX6_isLike 66 = .ok (.getfield 13, 3) := by decide +kernel
theorem dX6_isLike_69 : decode cX6_isLike 69 = .ok (.iload 4, 2) := by decide +kernel
theorem dX6_isLike_71 : decode cX6_isLike 71 = .ok (.iaload, 1) := by decide +kernel
theorem dX6_isLike_72 : decode cX6_isLike 72 = .ok (.if_icmp .ne 39, 3) := by decide +kernel
theorem dX6_isLike_75 : decode cX6_isLike 75 = .ok (.aload_n 0, 1) := by decide +kernel
theorem dX6_isLike_76 : decode cX6_isLike 76 = .ok (.getfield 16, 3) := by decide +kernel
theorem dX6_isLike_79 : decode cX6_isLike 79 = .ok (.iload_n 3, 1) := by decide +kernel
theorem dX6_isLike_80 : decode cX6_isLike 80 = .ok (.iaload, 1) := by decide +kernel
theorem dX6_isLike_81 : decode cX6_isLike 81 = .ok (.aload_n 0, 1) := by decide +kernel
theorem dX6_isLike_82 : decode cX6_isLike 82 = .ok (.getfield 16, 3) := by decide +kernel
theorem dX6_isLike_85 : decode cX6_isLike 85 = .ok (.iload 4, 2) := by decide +kernel
theorem dX6_isLike_87 : decode cX6_isLike 87 = .ok (.iaload, 1) := by decide +kernel
theorem dX6_isLike_88 : decode cX6_isLike 88 = .ok (.if_icmp .ne 23, 3) := by decide +kernel
theorem dX6_isLike_91 : decode cX6_isLike 91 = .ok (.aload_n 0, 1) := by decide +kernel
theorem dX6_isLike_92 : decode cX6_isLike 92 = .ok (.getfield 19, 3) := by decide +kernel
theorem dX6_isLike_95 : decode cX6_isLike 95 = .ok (.iload_n 3, 1) := by decide +kernel
theorem dX6_isLike_96 : decode cX6_isLike 96 = .ok (.iaload, 1) := by decide +kernel
theorem dX6_isLike_97 : decode cX6_isLike 97 = .ok (.aload_n 0, 1) := by decide +kernel
theorem dX6_isLike_98 : decode cX6_isLike 98 = .ok (.getfield 19, 3) := by decide +kernel
theorem dX6_isLike_101 : decode cX6_isLike 101 = .ok (.iload 4, 2) := by decide +kernel
theorem dX6_isLike_103 : decode cX6_isLike 103 = .ok (.iaload, 1) := by decide +kernel
theorem dX6_isLike_104 : decode cX6_isLike 104 = .ok (.if_icmp .ne 7, 3) := by decide +kernel
theorem dX6_isLike_107 : decode cX6_isLike 107 = .ok (.iconst 1, 1) := by decide +kernel
theorem dX6_isLike_108 : decode cX6_isLike 108 = .ok (.goto 4, 3) := by decide +kernel
theorem dX6_isLike_111 : decode cX6_isLike 111 = .ok (.iconst 0, 1) := by decide +kernel
theorem dX6_isLike_112 : decode cX6_isLike 112 = .ok (.istore 5, 2) := by decide +kernel
theorem dX6_isLike_114 : decode cX6_isLike 114 = .ok (.iload 5, 2) := by decide +kernel
theorem dX6_isLike_116 : decode cX6_isLike 116 = .ok (.ifCond .eq 35, 3) := by decide +kernel
theorem dX6_isLike_119 : decode cX6_isLike 119 = .ok (.aload_n 0, 1) := by decide +kernel
theorem dX6_isLike_120 : decode cX6_isLike 120 = .ok (.getfield 22, 3) := by decide +kernel
theorem dX6_isLike_123 : decode cX6_isLike 123 = .ok (.iload_n 3, 1) := by decide +kernel
theorem dX6_isLike_124 : decode cX6_isLike 124 = .ok (.baload, 1) := by decide +kernel
theorem dX6_isLike_125 : decode cX6_isLike 125 = .ok (.aload_n 0, 1) := by decide +kernel
theorem dX6_isLike_126 : decode cX6_isLike 126 = .ok (.getfield 22, 3) := by decide +kernel
theorem dX6_isLike_129 : decode cX6_isLike 129 = .ok (.iload 4, 2) := by decide +kernel
theorem dX6_isLike_131 : decode cX6_isLike 131 = .ok (.baload, 1) := by decide +kernel
theorem dX6_isLike_132 : decode cX6_isLike 132 = .ok (.if_icmp .ne 19, 3) := by decide +kernel
theorem dX6_isLike_135 : decode cX6_isLike 135 = .ok (.aload_n 0, 1) := by decide +kernel
theorem dX6_isLike_136 : decode cX6_isLike 136 = .ok (.getfield 26, 3) := by decide +kernel
theorem dX6_isLike_139 : decode cX6_isLike 139 = .ok (.iload_n 3, 1) := by decide +kernel
theorem dX6_isLike_140 : decode cX6_isLike 140 = .ok (.iaload, 1) := by decide +kernel
theorem dX6_isLike_141 : decode cX6_isLike 141 = .ok (.aload_n 0, 1) := by decide +kernel
theorem dX6_isLike_142 : decode cX6_isLike 142 = .ok (.getfield 26, 3) := by decide +kernel
theorem dX6_isLike_145 : decode cX6_isLike 145 = .ok (.iload 4, 2) := by decide +kernel
theorem dX6_isLike_147 : decode cX6_isLike 147 = .ok (.iaload, 1) := by decide +kernel
theorem dX6_isLike_148 : decode cX6_isLike 148 = .ok (.if_icmp .eq 5, 3) := by decide +kernel
theorem dX6_isLike_151 : decode cX6_isLike 151 = .ok (.iconst 0, 1) := by decide +kernel
theorem dX6_isLike_152 : decode cX6_isLike 152 = .ok (.ireturn, 1) := by decide +kernel
theorem dX6_isLike_153 : decode cX6_isLike 153 = .ok (.iinc 2 1, 3) := by decide +kernel
theorem dX6_isLike_156 : decode cX6_isLike 156 = .ok (.goto (-136), 3) := by decide +kernel
theorem dX6_isLike_159 : decode cX6_isLike 159 = .ok (.iconst 1, 1) := by decide +kernel
theorem dX6_isLike_160 : decode cX6_isLike 160 = .ok (.ireturn, 1) := by decide +kernel
theorem dX6_source_0 : decode cX6_source 0 = .ok (.aload_n 0, 1) := by decide +kernel
theorem dX6_source_1 : decode cX6_source 1 = .ok (.iload_n 2, 1) := by decide +kernel
theorem dX6_source_2 : decode cX6_source 2 = .ok (.aload_n 0, 1) := by decide +kernel
theorem dX6_source_3 : decode cX6_source 3 = .ok (.getfield 7, 3) := by decide +kernel
theorem dX6_source_6 : decode cX6_source 6 = .ok (.iload_n 1, 1) := by decide +kernel
theorem dX6_source_7 : decode cX6_source 7 = .ok (.iaload, 1) := by decide +kernel
theorem dX6_source_8 : decode cX6_source 8 = .ok (.invokevirtual 94, 3) := by decide +kernel
theorem dX6_source_11 : decode cX6_source 11 = .ok (.istore_n 3, 1) := by decide +kernel
theorem dX6_source_12 : decode cX6_source 12 = .ok (.iload_n 3, 1) := by decide +kernel
theorem dX6_source_13 : decode cX6_source 13 = .ok (.iconst (-1), 1) := by decide +kernel
theorem dX6_source_14 : decode cX6_source 14 = .ok (.if_icmp .eq 7, 3) := by decide +kernel
theorem dX6_source_17 : decode cX6_source 17 = .ok (.iload_n 3, 1) := by decide +kernel
theorem dX6_source_18 : decode cX6_source 18 = .ok (.goto 28, 3) := by decide +kernel
theorem dX6_source_21 : decode cX6_source 21 = .ok (.aload_n 0, 1) := by decide +kernel
theorem dX6_source_22 : decode cX6_source 22 = .ok (.getfield 19, 3) := by decide +kernel
theorem dX6_source_25 : decode cX6_source 25 = .ok (.iload_n 1, 1) := by decide +kernel
theorem dX6_source_26 : decode cX6_source 26 = .ok (.iaload, 1) := by decide +kernel
theorem dX6_source_27 : decode cX6_source 27 = .ok (.iconst (-1), 1) := by decide +kernel
theorem dX6_source_28 : decode cX6_source 28 = .ok (.if_icmp .ne 7, 3) := by decide +kernel
theorem dX6_source_31 : decode cX6_source 31 = .ok (.iconst (-1), 1) := by decide +kernel
theorem dX6_source_32 : decode cX6_source 32 = .ok (.goto 14, 3) := by decide +kernel
theorem dX6_source_35 : decode cX6_source 35 = .ok (.aload_n 0, 1) := by decide +kernel
theorem dX6_source_36 : decode cX6_source 36 = .ok (.iload_n 2, 1) := by decide +kernel
theorem dX6_source_37 : decode cX6_source 37 = .ok (.aload_n 0, 1) := by decide +kernel
theorem dX6_source_38 : decode cX6_source 38 = .ok (.getfield 19, 3) := by decide +kernel
theorem dX6_source_41 : decode cX6_source 41 = .ok (.iload_n 1, 1) := by decide +kernel
theorem dX6_source_42 : decode cX6_source 42 = .ok (.iaload, 1) := by decide +kernel
theorem dX6_source_43 : decode cX6_source 43 = .ok (.invokevirtual 94, 3) := by decide +kernel
theorem dX6_source_46 : decode cX6_source 46 = .ok (.ireturn, 1) := by decide +kernel
theorem dX6_isRead_0 : decode cX6_isRead 0 = .ok (.aload_n 0, 1) := by decide +kernel
theorem dX6_isRead_1 : decode cX6_isRead 1 = .ok (.getfield 13, 3) := by decide +kernel
theorem dX6_isRead_4 : decode cX6_isRead 4 = .ok (.iload_n 1, 1) := by decide +kernel
theorem dX6_isRead_5 : decode cX6_isRead 5 = .ok (.iaload, 1) := by decide +kernel
theorem dX6_isRead_6 : decode cX6_isRead 6 = .ok (.istore_n 3, 1) := by decide +kernel
theorem dX6_isRead_7 : decode cX6_isRead 7 = .ok (.iload_n 3, 1) := by decide +kernel
theorem dX6_isRead_8 : decode cX6_isRead 8 = .ok (.iconst 4, 1) := by decide +kernel
theorem dX6_isRead_9 : decode cX6_isRead 9 = .ok (.if_icmp .ne 43, 3) := by decide +kernel
theorem dX6_isRead_12 : decode cX6_isRead 12 = .ok (.aload_n 0, 1) := by decide +kernel
theorem dX6_isRead_13 : decode cX6_isRead 13 = .ok (.getfield 13, 3) := by decide +kernel
theorem dX6_isRead_16 : decode cX6_isRead 16 = .ok (.iload_n 2, 1) := by decide +kernel
theorem dX6_isRead_17 : decode cX6_isRead 17 = .ok (.iaload, 1) := by decide +kernel
theorem dX6_isRead_18 : decode cX6_isRead 18 = .ok (.iconst 4, 1) := by decide +kernel
theorem dX6_isRead_19 : decode cX6_isRead 19 = .ok (.if_icmp .ne 33, 3) := by decide +kernel
theorem dX6_isRead_22 : decode cX6_isRead 22 = .ok (.aload_n 0, 1) := by decide +kernel
theorem dX6_isRead_23 : decode cX6_isRead 23 = .ok (.getfield 35, 3) := by decide +kernel
theorem dX6_isRead_26 : decode cX6_isRead 26 = .ok (.bipush 37, 2) := by decide +kernel
theorem dX6_isRead_28 : decode cX6_isRead 28 = .ok (.aload_n 0, 1) := by decide +kernel
theorem dX6_isRead_29 : decode cX6_isRead 29 = .ok (.aload_n 0, 1) := by decide +kernel
theorem dX6_isRead_30 : decode cX6_isRead 30 = .ok (.getfield 16, 3) := by decide +kernel
theorem dX6_isRead_33 : decode cX6_isRead 33 = .ok (.iload_n 1, 1) := by decide +kernel
theorem dX6_isRead_34 : decode cX6_isRead 34 = .ok (.iaload, 1) := by decide +kernel
theorem dX6_isRead_35 : decode cX6_isRead 35 = .ok (.invokevirtual 90, 3) := by decide +kernel
theorem dX6_isRead_38 : decode cX6_isRead 38 = .ok (.imul, 1) := by decide +kernel
theorem dX6_isRead_39 : decode cX6_isRead 39 = .ok (.aload_n 0, 1) := by decide +kernel
theorem dX6_isRead_40 : decode cX6_isRead 40 = .ok (.aload_n 0, 1) := by decide +kernel
theorem dX6_isRead_41 : decode cX6_isRead 41 = .ok (.getfield 16, 3) := by decide +kernel
theorem dX6_isRead_44 : decode cX6_isRead 44 = .ok (.iload_n 2, 1) := by decide +kernel
theorem dX6_isRead_45 : decode cX6_isRead 45 = .ok (.iaload, 1) := by decide +kernel
theorem dX6_isRead_46 : decode cX6_isRead 46 = .ok (.invokevirtual 90, 3) := by decide +kernel
theorem dX6_isRead_49 : decode cX6_isRead 49 = .ok (.iadd, 1) := by decide +kernel
theorem dX6_isRead_50 : decode cX6_isRead 50 = .ok (.baload, 1) := by decide +kernel
theorem dX6_isRead_51 : decode cX6_isRead 51 = .ok (.ireturn, 1) := by decide +kernel
theorem dX6_isRead_52 : decode cX6_isRead 52 = .ok (.iload_n 3, 1) := by decide +kernel
theorem dX6_isRead_53 : decode cX6_isRead 53 = .ok (.aload_n 0, 1) := by decide +kernel
theorem dX6_isRead_54 : decode cX6_isRead 54 = .ok (.getfield 13, 3) := by decide +kernel
theorem dX6_isRead_57 : decode cX6_isRead 57 = .ok (.iload_n 2, 1) := by decide +kernel
theorem dX6_isRead_58 : decode cX6_isRead 58 = .ok (.iaload, 1) := by decide +kernel
theorem dX6_isRead_59 : decode cX6_isRead 59 = .ok (.if_icmp .eq 17, 3) := by decide +kernel
theorem dX6_isRead_62 : decode cX6_isRead 62 = .ok (.iload_n 3, 1) := by decide +kernel
theorem dX6_isRead_63 : decode cX6_isRead 63 = .ok (.iconst 1, 1) := by decide +kernel
theorem dX6_isRead_64 : decode cX6_isRead 64 = .ok (.if_icmp .ne 16, 3) := by decide +kernel
theorem dX6_isRead_67 : decode cX6_isRead 67 = .ok (.aload_n 0, 1) := by decide +kernel
theorem dX6_isRead_68 : decode cX6_isRead 68 = .ok (.getfield 13, 3) := by decide +kernel
theorem dX6_isRead_71 : decode cX6_isRead 71 = .ok (.iload_n 2, 1) := by decide +kernel
theorem dX6_isRead_72 : decode cX6_isRead 72 = .ok (.iaload, 1) := by decide +kernel
theorem dX6_isRead_73 : decode cX6_isRead 73 = .ok (.ifCond .ne 7, 3) := by decide +kernel
theorem dX6_isRead_76 : decode cX6_isRead 76 = .ok (.iconst 1, 1) := by decide +kernel
theorem dX6_isRead_77 : decode cX6_isRead 77 = .ok (.goto 4, 3) := by decide +kernel
theorem dX6_isRead_80 : decode cX6_isRead 80 = .ok (.iconst 0, 1) := by decide +kernel
theorem dX6_isRead_81 : decode cX6_isRead 81 = .ok (.istore 4, 2) := by decide +kernel
theorem dX6_isRead_83 : decode cX6_isRead 83 = .ok (.iload 4, 2) := by decide +kernel
theorem dX6_isRead_85 : decode cX6_isRead 85 = .ok (.ifCond .eq 36, 3) := by decide +kernel
theorem dX6_isRead_88 : decode cX6_isRead 88 = .ok (.iload_n 3, 1) := by decide +kernel
theorem dX6_isRead_89 : decode cX6_isRead 89 = .ok (.iconst 3, 1) := by decide +kernel
theorem dX6_isRead_90 : decode cX6_isRead 90 = .ok (.if_icmp .ne 27, 3) := by decide +kernel
theorem dX6_isRead_93 : decode cX6_isRead 93 = .ok (.aload_n 0, 1) := by decide +kernel
theorem dX6_isRead_94 : decode cX6_isRead 94 = .ok (.getfield 16, 3) := by decide +kernel
theorem dX6_isRead_97 : decode cX6_isRead 97 = .ok (.iload_n 1, 1) := by decide +kernel
theorem dX6_isRead_98 : decode cX6_isRead 98 = .ok (.iaload, 1) := by decide +kernel
theorem dX6_isRead_99 : decode cX6_isRead 99 = .ok (.aload_n 0, 1) := by decide +kernel
theorem dX6_isRead_100 : decode cX6_isRead 100 = .ok (.getfield 16, 3) := by decide +kernel
theorem dX6_isRead_103 : decode cX6_isRead 103 = .ok (.iload_n 2, 1) := by decide +kernel
theorem dX6_isRead_104 : decode cX6_isRead 104 = .ok (.iaload, 1) := by decide +kernel
theorem dX6_isRead_105 : decode cX6_isRead 105 = .ok (.if_icmp .ge 12, 3) := by decide +kernel
theorem dX6_isRead_108 : decode cX6_isRead 108 = .ok (.aload_n 0, 1) := by decide +kernel
theorem dX6_isRead_109 : decode cX6_isRead 109 = .ok (.getfield 22, 3) := by decide +kernel
theorem dX6_isRead_112 : decode cX6_isRead 112 = .ok (.iload_n 1, 1) := by decide +kernel
theorem dX6_isRead_113 : decode cX6_isRead 113 = .ok (.baload, 1) := by decide +kernel
theorem dX6_isRead_114 : decode cX6_isRead 114 = .ok (.ifCond .eq 7, 3) := by decide +kernel
theorem dX6_isRead_117 : decode cX6_isRead 117 = .ok (.iconst 1, 1) := by decide +kernel
theorem dX6_isRead_118 : decode cX6_isRead 118 = .ok (.goto 4, 3) := by decide +kernel
theorem dX6_isRead_121 : decode cX6_isRead 121 = .ok (.iconst 0, 1) := by decide +kernel
theorem dX6_isRead_122 : decode cX6_isRead 122 = .ok (.ireturn, 1) := by decide +kernel
theorem dX6_canReadNow_0 : decode cX6_canReadNow 0 = .ok (.iconst 0, 1) := by decide +kernel
theorem dX6_canReadNow_1 : decode cX6_canReadNow 1 = .ok (.istore_n 3, 1) := by decide +kernel
theorem dX6_canReadNow_2 : decode cX6_canReadNow 2 = .ok (.iload_n 3, 1) := by decide +kernel
theorem dX6_canReadNow_3 : decode cX6_canReadNow 3 = .ok (.aload_n 0, 1) := by decide +kernel
theorem dX6_canReadNow_4 : decode cX6_canReadNow 4 = .ok (.getfield 29, 3) := by decide +kernel
theorem dX6_canReadNow_7 : decode cX6_canReadNow 7 = .ok (.iload_n 1, 1) := by decide +kernel
theorem dX6_canReadNow_8 : decode cX6_canReadNow 8 = .ok (.iaload, 1) := by decide +kernel
theorem dX6_canReadNow_9 : decode cX6_canReadNow 9 = .ok (.if_icmp .ge 61, 3) := by decide +kernel
theorem dX6_canReadNow_12 : decode cX6_canReadNow 12 = .ok (.iconst 5, 1) := by decide +kernel
theorem dX6_canReadNow_13 : decode cX6_canReadNow 13 = .ok (.iload_n 1, 1) := by decide +kernel
theorem dX6_canReadNow_14 : decode cX6_canReadNow 14 = .ok (.imul, 1) := by decide +kernel
theorem dX6_canReadNow_15 : decode cX6_canReadNow 15 = .ok (.iload_n 3, 1) := by decide +kernel
theorem dX6_canReadNow_16 : decode cX6_canReadNow 16 = .ok (.iadd, 1) := by decide +kernel
theorem dX6_canReadNow_17 : decode cX6_canReadNow 17 = .ok (.istore 4, 2) := by decide +kernel
theorem dX6_canReadNow_19 : decode cX6_canReadNow 19 = .ok (.aload_n 0, 1) := by decide +kernel
theorem dX6_canReadNow_20 : decode cX6_canReadNow 20 = .ok (.iload 4, 2) := by decide +kernel
theorem dX6_canReadNow_22 : decode cX6_canReadNow 22 = .ok (.iload_n 2, 1) := by decide +kernel
theorem dX6_canReadNow_23 : decode cX6_canReadNow 23 = .ok (.invokevirtual 112, 3) := by decide +kernel
theorem dX6_canReadNow_26 : decode cX6_canReadNow 26 = .ok (.istore 5, 2) := by decide +kernel
theorem dX6_canReadNow_28 : decode cX6_canReadNow 28 = .ok (.iload 5, 2) := by decide +kernel
theorem dX6_canReadNow_30 : decode cX6_canReadNow 30 = .ok (.iconst (-1), 1) := by decide +kernel
theorem dX6_canReadNow_31 : decode cX6_canReadNow 31 = .ok (.if_icmp .ne 16, 3) := by decide +kernel
theorem dX6_canReadNow_34 : decode cX6_canReadNow 34 = .ok (.aload_n 0, 1) := by decide +kernel
theorem dX6_canReadNow_35 : decode cX6_canReadNow 35 = .ok (.getfield 22, 3) := by decide +kernel
theorem dX6_canReadNow_38 : decode cX6_canReadNow 38 = .ok (.iload 4, 2) := by decide +kernel
theorem dX6_canReadNow_40 : decode cX6_canReadNow 40 = .ok (.baload, 1) := by decide +kernel
theorem dX6_canReadNow_41 : decode cX6_canReadNow 41 = .ok (.ifCond .ne 23, 3) := by decide +kernel
theorem dX6_canReadNow_44 : decode cX6_canReadNow 44 = .ok (.goto 18, 3) := by decide +kernel
theorem dX6_canReadNow_47 : decode cX6_canReadNow 47 = .ok (.aload_n 0, 1) := by decide +kernel
theorem dX6_canReadNow_48 : decode cX6_canReadNow 48 = .ok (.iload 4, 2) := by decide +kernel
theorem dX6_canReadNow_50 : decode cX6_canReadNow 50 = .ok (.iconst 5, 1) := by decide +kernel
theorem dX6_canReadNow_51 : decode cX6_canReadNow 51 = .ok (.iload_n 2, 1) := by decide +kernel
theorem dX6_canReadNow_52 : decode cX6_canReadNow 52 = .ok (.imul, 1) := by decide +kernel
theorem dX6_canReadNow_53 : decode cX6_canReadNow 53 = .ok (.iload 5, 2) := by decide +kernel
theorem dX6_canReadNow_55 : decode cX6_canReadNow 55 = .ok (.iadd, 1) := by decide +kernel
theorem dX6_canReadNow_56 : decode cX6_canReadNow 56 = .ok (.invokevirtual 115, 3) := by decide +kernel
theorem dX6_canReadNow_59 : decode cX6_canReadNow 59 = .ok (.ifCond .ne 5, 3) := by decide +kernel
theorem dX6_canReadNow_62 : decode cX6_canReadNow 62 = .ok (.iconst 0, 1) := by decide +kernel
theorem dX6_canReadNow_63 : decode cX6_canReadNow 63 = .ok (.ireturn, 1) := by decide +kernel
theorem dX6_canReadNow_64 : decode cX6_canReadNow 64 = .ok (.iinc 3 1, 3) := by decide +kernel
theorem dX6_canReadNow_67 : decode cX6_canReadNow 67 = .ok (.goto (-65), 3) := by decide +kernel
theorem dX6_canReadNow_70 : decode cX6_canReadNow 70 = .ok (.iconst 1, 1) := by decide +kernel
theorem dX6_canReadNow_71 : decode cX6_canReadNow 71 = .ok (.ireturn, 1) := by decide +kernel
theorem dX6_tells_0 : decode cX6_tells 0 = .ok (.iconst 0, 1) := by decide +kernel
theorem dX6_tells_1 : decode cX6_tells 1 = .ok (.istore_n 1, 1) := by decide +kernel
theorem dX6_tells_2 : decode cX6_tells 2 = .ok (.iload_n 1, 1) := by decide +kernel
theorem dX6_tells_3 : decode cX6_tells 3 = .ok (.sipush 1369, 3) := by decide +kernel
theorem dX6_tells_6 : decode cX6_tells 6 = .ok (.if_icmp .ge 79, 3) := by decide +kernel
theorem dX6_tells_9 : decode cX6_tells 9 = .ok (.iload_n 1, 1) := by decide +kernel
theorem dX6_tells_10 : decode cX6_tells 10 = .ok (.bipush 37, 2) := by decide +kernel
theorem dX6_tells_12 : decode cX6_tells 12 = .ok (.idiv, 1) := by decide +kernel
theorem dX6_tells_13 : decode cX6_tells 13 = .ok (.istore_n 2, 1) := by decide +kernel
theorem dX6_tells_14 : decode cX6_tells 14 = .ok (.iload_n 1, 1) := by decide +kernel
theorem dX6_tells_15 : decode cX6_tells 15 = .ok (.bipush 37, 2) := by decide +kernel
theorem dX6_tells_17 : decode cX6_tells 17 = .ok (.irem, 1) := by decide +kernel
theorem dX6_tells_18 : decode cX6_tells 18 = .ok (.istore_n 3, 1) := by decide +kernel
theorem dX6_tells_19 : decode cX6_tells 19 = .ok (.iload_n 2, 1) := by decide +kernel
theorem dX6_tells_20 : decode cX6_tells 20 = .ok (.aload_n 0, 1) := by decide +kernel
theorem dX6_tells_21 : decode cX6_tells 21 = .ok (.getfield 118, 3) := by decide +kernel
theorem dX6_tells_24 : decode cX6_tells 24 = .ok (.if_icmp .lt 9, 3) := by decide +kernel
theorem dX6_tells_27 : decode cX6_tells 27 = .ok (.iload_n 2, 1) := by decide +kernel
theorem dX6_tells_28 : decode cX6_tells 28 = .ok (.bipush 36, 2) := by decide +kernel
theorem dX6_tells_30 : decode cX6_tells 30 = .ok (.if_icmp .ne 21, 3) := by decide +kernel
theorem dX6_tells_33 : decode cX6_tells 33 = .ok (.iload_n 3, 1) := by decide +kernel
theorem dX6_tells_34 : decode cX6_tells 34 = .ok (.aload_n 0, 1) := by decide +kernel
theorem dX6_tells_35 : decode cX6_tells 35 = .ok (.getfield 118, 3) := by decide +kernel
theorem dX6_tells_38 : decode cX6_tells 38 = .ok (.if_icmp .lt 9, 3) := by decide +kernel
theorem dX6_tells_41 : decode cX6_tells 41 = .ok (.iload_n 3, 1) := by decide +kernel
theorem dX6_tells_42 : decode cX6_tells 42 = .ok (.bipush 36, 2) := by decide +kernel
theorem dX6_tells_44 : decode cX6_tells 44 = .ok (.if_icmp .ne 7, 3) := by decide +kernel
theorem dX6_tells_47 : decode cX6_tells 47 = .ok (.iconst 1, 1) := by decide +kernel
theorem dX6_tells_48 : decode cX6_tells 48 = .ok (.goto 4, 3) := by decide +kernel
theorem dX6_tells_51 : decode cX6_tells 51 = .ok (.iconst 0, 1) := by decide +kernel
theorem dX6_tells_52 : decode cX6_tells 52 = .ok (.istore 4, 2) := by decide +kernel
theorem dX6_tells_54 : decode cX6_tells 54 = .ok (.aload_n 0, 1) := by decide +kernel
theorem dX6_tells_55 : decode cX6_tells 55 = .ok (.getfield 35, 3) := by decide +kernel
theorem dX6_tells_58 : decode cX6_tells 58 = .ok (.iload_n 1, 1) := by decide +kernel
theorem dX6_tells_59 : decode cX6_tells 59 = .ok (.iload 4, 2) := by decide +kernel
theorem dX6_tells_61 : decode cX6_tells 61 = .ok (.ifCond .eq 16, 3) := by decide +kernel
theorem dX6_tells_64 : decode cX6_tells 64 = .ok (.aload_n 0, 1) := by decide +kernel
theorem dX6_tells_65 : decode cX6_tells 65 = .ok (.iload_n 2, 1) := by decide +kernel
theorem dX6_tells_66 : decode cX6_tells 66 = .ok (.iload_n 3, 1) := by decide +kernel
theorem dX6_tells_67 : decode cX6_tells 67 = .ok (.invokevirtual 121, 3) := by decide +kernel
theorem dX6_tells_70 : decode cX6_tells 70 = .ok (.ifCond .eq 7, 3) := by decide +kernel
theorem dX6_tells_73 : decode cX6_tells 73 = .ok (.iconst 1, 1) := by decide +kernel
theorem dX6_tells_74 : decode cX6_tells 74 = .ok (.goto 4, 3) := by decide +kernel
theorem dX6_tells_77 : decode cX6_tells 77 = .ok (.iconst 0, 1) := by decide +kernel
theorem dX6_tells_78 : decode cX6_tells 78 = .ok (.bastore, 1) := by decide +kernel
theorem dX6_tells_79 : decode cX6_tells 79 = .ok (.iinc 1 1, 3) := by decide +kernel
theorem dX6_tells_82 : decode cX6_tells 82 = .ok (.goto (-80), 3) := by decide +kernel
theorem dX6_tells_85 : decode cX6_tells 85 = .ok (.return_, 1) := by decide +kernel
theorem dX6_isAcceptedBy_0 : decode cX6_isAcceptedBy 0 = .ok (.aload_n 0, 1) := by decide +kernel
theorem dX6_isAcceptedBy_1 : decode cX6_isAcceptedBy 1 = .ok (.invokevirtual 124, 3) := by decide +kernel
theorem dX6_isAcceptedBy_4 : decode cX6_isAcceptedBy 4 = .ok (.iconst 1, 1) := by decide +kernel
theorem dX6_isAcceptedBy_5 : decode cX6_isAcceptedBy 5 = .ok (.istore_n 2, 1) := by decide +kernel
theorem dX6_isAcceptedBy_6 : decode cX6_isAcceptedBy 6 = .ok (.aload_n 0, 1) := by decide +kernel
theorem dX6_isAcceptedBy_7 : decode cX6_isAcceptedBy 7 = .ok (.getfield 44, 3) := by decide +kernel
theorem dX6_isAcceptedBy_10 : decode cX6_isAcceptedBy 10 = .ok (.iload_n 1, 1) := by decide +kernel
theorem dX6_isAcceptedBy_11 : decode cX6_isAcceptedBy 11 = .ok (.iaload, 1) := by decide +kernel
theorem dX6_isAcceptedBy_12 : decode cX6_isAcceptedBy 12 = .ok (.iconst 1, 1) := by decide +kernel
theorem dX6_isAcceptedBy_13 : decode cX6_isAcceptedBy 13 = .ok (.isub, 1) := by decide +kernel
theorem dX6_isAcceptedBy_14 : decode cX6_isAcceptedBy 14 = .ok (.istore_n 3, 1) := by decide +kernel
theorem dX6_isAcceptedBy_15 : decode cX6_isAcceptedBy 15 = .ok (.iload_n 3, 1) := by decide +kernel
theorem dX6_isAcceptedBy_16 : decode cX6_isAcceptedBy 16 = .ok (.ifCond .lt 125, 3) := by decide +kernel
theorem dX6_isAcceptedBy_19 : decode cX6_isAcceptedBy 19 = .ok (.aload_n 0, 1) := by decide +kernel
theorem dX6_isAcceptedBy_20 : decode cX6_isAcceptedBy 20 = .ok (.iload_n 1, 1) := by decide +kernel
theorem dX6_isAcceptedBy_21 : decode cX6_isAcceptedBy 21 = .ok (.iload_n 3, 1) := by decide +kernel
theorem dX6_isAcceptedBy_22 : decode cX6_isAcceptedBy 22 = .ok (.invokevirtual 87, 3) := by decide +kernel
theorem dX6_isAcceptedBy_25 : decode cX6_isAcceptedBy 25 = .ok (.ifCond .eq 20, 3) := by decide +kernel
theorem dX6_isAcceptedBy_28 : decode cX6_isAcceptedBy 28 = .ok (.iload_n 2, 1) := by decide +kernel
theorem dX6_isAcceptedBy_29 : decode cX6_isAcceptedBy 29 = .ok (.ifCond .ne 12, 3) := by decide +kernel
theorem dX6_isAcceptedBy_32 : decode cX6_isAcceptedBy 32 = .ok (.aload_n 0, 1) := by decide +kernel
theorem dX6_isAcceptedBy_33 : decode cX6_isAcceptedBy 33 = .ok (.getfield 50, 3) := by decide +kernel
theorem dX6_isAcceptedBy_36 : decode cX6_isAcceptedBy 36 = .ok (.iload_n 1, 1) := by decide +kernel
theorem dX6_isAcceptedBy_37 : decode cX6_isAcceptedBy 37 = .ok (.baload, 1) := by decide +kernel
theorem dX6_isAcceptedBy_38 : decode cX6_isAcceptedBy 38 = .ok (.ifCond .eq 7, 3) := by decide +kernel
theorem dX6_isAcceptedBy_41 : decode cX6_isAcceptedBy 41 = .ok (.iconst 1, 1) := by decide +kernel
theorem dX6_isAcceptedBy_42 : decode cX6_isAcceptedBy 42 = .ok (.goto 4, 3) := by decide +kernel
theorem dX6_isAcceptedBy_45 : decode cX6_isAcceptedBy 45 = .ok (.iconst 0, 1) := by decide +kernel
theorem dX6_isAcceptedBy_46 : decode cX6_isAcceptedBy 46 = .ok (.istore 4, 2) := by decide +kernel
theorem dX6_isAcceptedBy_48 : decode cX6_isAcceptedBy 48 = .ok (.aload_n 0, 1) := by decide +kernel
theorem dX6_isAcceptedBy_49 : decode cX6_isAcceptedBy 49 = .ok (.getfield 38, 3) := by decide +kernel
theorem dX6_isAcceptedBy_52 : decode cX6_isAcceptedBy 52 = .ok (.bipush 6, 2) := by decide +kernel
theorem dX6_isAcceptedBy_54 : decode cX6_isAcceptedBy 54 = .ok (.iload_n 1, 1) := by decide +kernel
theorem dX6_isAcceptedBy_55 : decode cX6_isAcceptedBy 55 = .ok (.imul, 1) := by decide +kernel
theorem dX6_isAcceptedBy_56 : decode cX6_isAcceptedBy 56 = .ok (.iload_n 3, 1) := by decide +kernel
theorem dX6_isAcceptedBy_57 : decode cX6_isAcceptedBy 57 = .ok (.iadd, 1) := by decide +kernel
theorem dX6_isAcceptedBy_58 : decode cX6_isAcceptedBy 58 = .ok (.iaload, 1) := by decide +kernel
theorem dX6_isAcceptedBy_59 : decode cX6_isAcceptedBy 59 = .ok (.istore 5, 2) := by decide +kernel
theorem dX6_isAcceptedBy_61 : decode cX6_isAcceptedBy 61 = .ok (.iload 4, 2) := by decide +kernel
theorem dX6_isAcceptedBy_63 : decode cX6_isAcceptedBy 63 = .ok (.ifCond .eq 57, 3) := by decide +kernel
theorem dX6_isAcceptedBy_66 : decode cX6_isAcceptedBy 66 = .ok (.aload_n 0, 1) := by decide +kernel
theorem dX6_isAcceptedBy_67 : decode cX6_isAcceptedBy 67 = .ok (.getfield 47, 3) := by decide +kernel
theorem dX6_isAcceptedBy_70 : decode cX6_isAcceptedBy 70 = .ok (.iload_n 1, 1) := by decide +kernel
theorem dX6_isAcceptedBy_71 : decode cX6_isAcceptedBy 71 = .ok (.iaload, 1) := by decide +kernel
theorem dX6_isAcceptedBy_72 : decode cX6_isAcceptedBy 72 = .ok (.iconst 2, 1) := by decide +kernel
theorem dX6_isAcceptedBy_73 : decode cX6_isAcceptedBy 73 = .ok (.irem, 1) := by decide +kernel
theorem dX6_isAcceptedBy_74 : decode cX6_isAcceptedBy 74 = .ok (.iconst 1, 1) := by decide +kernel
theorem dX6_isAcceptedBy_75 : decode cX6_isAcceptedBy 75 = .ok (.if_icmp .ne 17, 3) := by decide +kernel
theorem dX6_isAcceptedBy_78 : decode cX6_isAcceptedBy 78 = .ok (.aload_n 0, 1) := by decide +kernel
theorem dX6_isAcceptedBy_79 : decode cX6_isAcceptedBy 79 = .ok (.getfield 35, 3) := by decide +kernel
theorem dX6_isAcceptedBy_82 : decode cX6_isAcceptedBy 82 = .ok (.sipush 1332, 3) := by decide +kernel
theorem dX6_isAcceptedBy_85 : decode cX6_isAcceptedBy 85 = .ok (.iload 5, 2) := by decide +kernel
theorem dX6_isAcceptedBy_87 : decode cX6_isAcceptedBy 87 = .ok (.iadd, 1) := by decide +kernel
theorem dX6_isAcceptedBy_88 : decode cX6_isAcceptedBy 88 = .ok (.baload, 1) := by decide +kernel
theorem dX6_isAcceptedBy_89 : decode cX6_isAcceptedBy 89 = .ok (.ifCond .eq 29, 3) := by decide +kernel
theorem dX6_isAcceptedBy_92 : decode cX6_isAcceptedBy 92 = .ok (.aload_n 0, 1) := by decide +kernel
theorem dX6_isAcceptedBy_93 : decode cX6_isAcceptedBy 93 = .ok (.getfield 47, 3) := by decide +kernel
theorem dX6_isAcceptedBy_96 : decode cX6_isAcceptedBy 96 = .ok (.iload_n 1, 1) := by decide +kernel
theorem dX6_isAcceptedBy_97 : decode cX6_isAcceptedBy 97 = .ok (.iaload, 1) := by decide +kernel
theorem dX6_isAcceptedBy_98 : decode cX6_isAcceptedBy 98 = .ok (.iconst 1, 1) := by decide +kernel
theorem dX6_isAcceptedBy_99 : decode cX6_isAcceptedBy 99 = .ok (.if_icmp .le 21, 3) := by decide +kernel
theorem dX6_isAcceptedBy_102 : decode cX6_isAcceptedBy 102 = .ok (.aload_n 0, 1) := by decide +kernel
theorem dX6_isAcceptedBy_103 : decode cX6_isAcceptedBy 103 = .ok (.getfield 35, 3) := by decide +kernel
theorem dX6_isAcceptedBy_106 : decode cX6_isAcceptedBy 106 = .ok (.bipush 37, 2) := by decide +kernel
theorem dX6_isAcceptedBy_108 : decode cX6_isAcceptedBy 108 = .ok (.iload 5, 2) := by decide +kernel
theorem dX6_isAcceptedBy_110 : decode cX6_isAcceptedBy 110 = .ok (.imul, 1) := by decide +kernel
theorem dX6_isAcceptedBy_111 : decode cX6_isAcceptedBy 111 = .ok (.bipush 36, 2) := by decide +kernel
theorem dX6_isAcceptedBy_113 : decode cX6_isAcceptedBy 113 = .ok (.iadd, 1) := by decide +kernel
theorem dX6_isAcceptedBy_114 : decode cX6_isAcceptedBy 114 = .ok (.baload, 1) := by decide +kernel
theorem dX6_isAcceptedBy_115 : decode cX6_isAcceptedBy 115 = .ok (.ifCond .ne 5, 3) := by decide +kernel
theorem dX6_isAcceptedBy_118 : decode cX6_isAcceptedBy 118 = .ok (.iconst 0, 1) := by decide +kernel
theorem dX6_isAcceptedBy_119 : decode cX6_isAcceptedBy 119 = .ok (.ireturn, 1) := by decide +kernel
theorem dX6_isAcceptedBy_120 : decode cX6_isAcceptedBy 120 = .ok (.iload_n 2, 1) := by decide +kernel
theorem dX6_isAcceptedBy_121 : decode cX6_isAcceptedBy 121 = .ok (.ifCond .eq 12, 3) := by decide +kernel
theorem dX6_isAcceptedBy_124 : decode cX6_isAcceptedBy 124 = .ok (.iload 4, 2) := by decide +kernel
theorem dX6_isAcceptedBy_126 : decode cX6_isAcceptedBy 126 = .ok (.ifCond .ne 7, 3) := by decide +kernel
theorem dX6_isAcceptedBy_129 : decode cX6_isAcceptedBy 129 = .ok (.iconst 1, 1) := by decide +kernel
theorem dX6_isAcceptedBy_130 : decode cX6_isAcceptedBy 130 = .ok (.goto 4, 3) := by decide +kernel
theorem dX6_isAcceptedBy_133 : decode cX6_isAcceptedBy 133 = .ok (.iconst 0, 1) := by decide +kernel
theorem dX6_isAcceptedBy_134 : decode cX6_isAcceptedBy 134 = .ok (.istore_n 2, 1) := by decide +kernel
theorem dX6_isAcceptedBy_135 : decode cX6_isAcceptedBy 135 = .ok (.iinc 3 (-1), 3) := by decide +kernel
theorem dX6_isAcceptedBy_138 : decode cX6_isAcceptedBy 138 = .ok (.goto (-123), 3) := by decide +kernel
theorem dX6_isAcceptedBy_141 : decode cX6_isAcceptedBy 141 = .ok (.iconst 1, 1) := by decide +kernel
theorem dX6_isAcceptedBy_142 : decode cX6_isAcceptedBy 142 = .ok (.ireturn, 1) := by decide +kernel
theorem dX6_isAccepted_0 : decode cX6_isAccepted 0 = .ok (.aload_n 0, 1) := by decide +kernel
theorem dX6_isAccepted_1 : decode cX6_isAccepted 1 = .ok (.iload_n 1, 1) := by decide +kernel
theorem dX6_isAccepted_2 : decode cX6_isAccepted 2 = .ok (.invokestatic 127, 3) := by decide +kernel
theorem dX6_isAccepted_5 : decode cX6_isAccepted 5 = .ok (.ifCond .ne 7, 3) := by decide +kernel
theorem dX6_isAccepted_8 : decode cX6_isAccepted 8 = .ok (.iconst 1, 1) := by decide +kernel
theorem dX6_isAccepted_9 : decode cX6_isAccepted 9 = .ok (.goto 18, 3) := by decide +kernel
theorem dX6_isAccepted_12 : decode cX6_isAccepted 12 = .ok (.aload_n 0, 1) := by decide +kernel
theorem dX6_isAccepted_13 : decode cX6_isAccepted 13 = .ok (.getfield 29, 3) := by decide +kernel
theorem dX6_isAccepted_16 : decode cX6_isAccepted 16 = .ok (.bipush 36, 2) := by decide +kernel
theorem dX6_isAccepted_18 : decode cX6_isAccepted 18 = .ok (.iaload, 1) := by decide +kernel
theorem dX6_isAccepted_19 : decode cX6_isAccepted 19 = .ok (.ifCond .ne 7, 3) := by decide +kernel
theorem dX6_isAccepted_22 : decode cX6_isAccepted 22 = .ok (.iconst 2, 1) := by decide +kernel
theorem dX6_isAccepted_23 : decode cX6_isAccepted 23 = .ok (.goto 4, 3) := by decide +kernel
theorem dX6_isAccepted_26 : decode cX6_isAccepted 26 = .ok (.iconst 0, 1) := by decide +kernel
theorem dX6_isAccepted_27 : decode cX6_isAccepted 27 = .ok (.invokevirtual 102, 3) := by decide +kernel
theorem dX6_isAccepted_30 : decode cX6_isAccepted 30 = .ok (.ifCond .eq 15, 3) := by decide +kernel
theorem dX6_isAccepted_33 : decode cX6_isAccepted 33 = .ok (.aload_n 0, 1) := by decide +kernel
theorem dX6_isAccepted_34 : decode cX6_isAccepted 34 = .ok (.iload_n 1, 1) := by decide +kernel
theorem dX6_isAccepted_35 : decode cX6_isAccepted 35 = .ok (.invokevirtual 130, 3) := by decide +kernel
theorem dX6_isAccepted_38 : decode cX6_isAccepted 38 = .ok (.ifCond .eq 7, 3) := by decide +kernel
theorem dX6_isAccepted_41 : decode cX6_isAccepted 41 = .ok (.iconst 1, 1) := by decide +kernel
theorem dX6_isAccepted_42 : decode cX6_isAccepted 42 = .ok (.goto 4, 3) := by decide +kernel
theorem dX6_isAccepted_45 : decode cX6_isAccepted 45 = .ok (.iconst 0, 1) := by decide +kernel
theorem dX6_isAccepted_46 : decode cX6_isAccepted 46 = .ok (.ireturn, 1) := by decide +kernel
theorem dX6_likeVersion_0 : decode cX6_likeVersion 0 = .ok (.iconst 0, 1) := by decide +kernel
theorem dX6_likeVersion_1 : decode cX6_likeVersion 1 = .ok (.istore_n 2, 1) := by decide +kernel
theorem dX6_likeVersion_2 : decode cX6_likeVersion 2 = .ok (.iload_n 2, 1) := by decide +kernel
theorem dX6_likeVersion_3 : decode cX6_likeVersion 3 = .ok (.aload_n 0, 1) := by decide +kernel
theorem dX6_likeVersion_4 : decode cX6_likeVersion 4 = .ok (.getfield 44, 3) := by decide +kernel
theorem dX6_likeVersion_7 : decode cX6_likeVersion 7 = .ok (.iload_n 1, 1) := by decide +kernel
theorem dX6_likeVersion_8 : decode cX6_likeVersion 8 = .ok (.iaload, 1) := by decide +kernel
theorem dX6_likeVersion_9 : decode cX6_likeVersion 9 = .ok (.if_icmp .ge 38, 3) := by decide +kernel
theorem dX6_likeVersion_12 : decode cX6_likeVersion 12 = .ok (.aload_n 0, 1) := by decide +kernel
theorem dX6_likeVersion_13 : decode cX6_likeVersion 13 = .ok (.iload_n 1, 1) := by decide +kernel
theorem dX6_likeVersion_14 : decode cX6_likeVersion 14 = .ok (.iload_n 2, 1) := by decide +kernel
theorem dX6_likeVersion_15 : decode cX6_likeVersion 15 = .ok (.invokevirtual 87, 3) := by decide +kernel
theorem dX6_likeVersion_18 : decode cX6_likeVersion 18 = .ok (.ifCond .eq 23, 3) := by decide +kernel
theorem dX6_likeVersion_21 : decode cX6_likeVersion 21 = .ok (.aload_n 0, 1) := by decide +kernel
theorem dX6_likeVersion_22 : decode cX6_likeVersion 22 = .ok (.aload_n 0, 1) := by decide +kernel
theorem dX6_likeVersion_23 : decode cX6_likeVersion 23 = .ok (.getfield 38, 3) := by decide +kernel
theorem dX6_likeVersion_26 : decode cX6_likeVersion 26 = .ok (.bipush 6, 2) := by decide +kernel
theorem dX6_likeVersion_28 : decode cX6_likeVersion 28 = .ok (.iload_n 1, 1) := by decide +kernel
theorem dX6_likeVersion_29 : decode cX6_likeVersion 29 = .ok (.imul, 1) := by decide +kernel
theorem dX6_likeVersion_30 : decode cX6_likeVersion 30 = .ok (.iload_n 2, 1) := by decide +kernel
theorem dX6_likeVersion_31 : decode cX6_likeVersion 31 = .ok (.iadd, 1) := by decide +kernel
theorem dX6_likeVersion_32 : decode cX6_likeVersion 32 = .ok (.iaload, 1) := by decide +kernel
theorem dX6_likeVersion_33 : decode cX6_likeVersion 33 = .ok (.invokevirtual 133, 3) := by decide +kernel
theorem dX6_likeVersion_36 : decode cX6_likeVersion 36 = .ok (.ifCond .eq 5, 3) := by decide +kernel
theorem dX6_likeVersion_39 : decode cX6_likeVersion 39 = .ok (.iload_n 2, 1) := by decide +kernel
theorem dX6_likeVersion_40 : decode cX6_likeVersion 40 = .ok (.ireturn, 1) := by decide +kernel
theorem dX6_likeVersion_41 : decode cX6_likeVersion 41 = .ok (.iinc 2 1, 3) := by decide +kernel
theorem dX6_likeVersion_44 : decode cX6_likeVersion 44 = .ok (.goto (-42), 3) := by decide +kernel
theorem dX6_likeVersion_47 : decode cX6_likeVersion 47 = .ok (.iconst (-1), 1) := by decide +kernel
theorem dX6_likeVersion_48 : decode cX6_likeVersion 48 = .ok (.ireturn, 1) := by decide +kernel
theorem dX6_numbered_0 : decode cX6_numbered 0 = .ok (.iconst 0, 1) := by decide +kernel
theorem dX6_numbered_1 : decode cX6_numbered 1 = .ok (.istore_n 1, 1) := by decide +kernel
theorem dX6_numbered_2 : decode cX6_numbered 2 = .ok (.iload_n 1, 1) := by decide +kernel
theorem dX6_numbered_3 : decode cX6_numbered 3 = .ok (.aload_n 0, 1) := by decide +kernel
theorem dX6_numbered_4 : decode cX6_numbered 4 = .ok (.getfield 118, 3) := by decide +kernel
theorem dX6_numbered_7 : decode cX6_numbered 7 = .ok (.if_icmp .ge 19, 3) := by decide +kernel
theorem dX6_numbered_10 : decode cX6_numbered 10 = .ok (.aload_n 0, 1) := by decide +kernel
theorem dX6_numbered_11 : decode cX6_numbered 11 = .ok (.iload_n 1, 1) := by decide +kernel
theorem dX6_numbered_12 : decode cX6_numbered 12 = .ok (.invokevirtual 133, 3) := by decide +kernel
theorem dX6_numbered_15 : decode cX6_numbered 15 = .ok (.ifCond .eq 5, 3) := by decide +kernel
theorem dX6_numbered_18 : decode cX6_numbered 18 = .ok (.iload_n 1, 1) := by decide +kernel
theorem dX6_numbered_19 : decode cX6_numbered 19 = .ok (.ireturn, 1) := by decide +kernel
theorem dX6_numbered_20 : decode cX6_numbered 20 = .ok (.iinc 1 1, 3) := by decide +kernel
theorem dX6_numbered_23 : decode cX6_numbered 23 = .ok (.goto (-21), 3) := by decide +kernel
theorem dX6_numbered_26 : decode cX6_numbered 26 = .ok (.iconst 0, 1) := by decide +kernel
theorem dX6_numbered_27 : decode cX6_numbered 27 = .ok (.istore_n 1, 1) := by decide +kernel
theorem dX6_numbered_28 : decode cX6_numbered 28 = .ok (.iload_n 1, 1) := by decide +kernel
theorem dX6_numbered_29 : decode cX6_numbered 29 = .ok (.iconst 5, 1) := by decide +kernel
theorem dX6_numbered_30 : decode cX6_numbered 30 = .ok (.if_icmp .ge 96, 3) := by decide +kernel
theorem dX6_numbered_33 : decode cX6_numbered 33 = .ok (.iconst 5, 1) := by decide +kernel
theorem dX6_numbered_34 : decode cX6_numbered 34 = .ok (.aload_n 0, 1) := by decide +kernel
theorem dX6_numbered_35 : decode cX6_numbered 35 = .ok (.getfield 118, 3) := by decide +kernel
theorem dX6_numbered_38 : decode cX6_numbered 38 = .ok (.imul, 1) := by decide +kernel
theorem dX6_numbered_39 : decode cX6_numbered 39 = .ok (.iload_n 1, 1) := by decide +kernel
theorem dX6_numbered_40 : decode cX6_numbered 40 = .ok (.iadd, 1) := by decide +kernel
theorem dX6_numbered_41 : decode cX6_numbered 41 = .ok (.istore_n 2, 1) := by decide +kernel
theorem dX6_numbered_42 : decode cX6_numbered 42 = .ok (.sipush 180, 3) := by decide +kernel
theorem dX6_numbered_45 : decode cX6_numbered 45 = .ok (.iload_n 1, 1) := by decide +kernel
theorem dX6_numbered_46 : decode cX6_numbered 46 = .ok (.iadd, 1) := by decide +kernel
theorem dX6_numbered_47 : decode cX6_numbered 47 = .ok (.istore_n 3, 1) := by decide +kernel
theorem dX6_numbered_48 : decode cX6_numbered 48 = .ok (.aload_n 0, 1) := by decide +kernel
theorem dX6_numbered_49 : decode cX6_numbered 49 = .ok (.getfield 7, 3) := by decide +kernel
theorem dX6_numbered_52 : decode cX6_numbered 52 = .ok (.iload_n 2, 1) := by decide +kernel
theorem dX6_numbered_53 : decode cX6_numbered 53 = .ok (.aload_n 0, 1) := by decide +kernel
theorem dX6_numbered_54 : decode cX6_numbered 54 = .ok (.getfield 7, 3) := by decide +kernel
theorem dX6_numbered_57 : decode cX6_numbered 57 = .ok (.iload_n 3, 1) := by decide +kernel
theorem dX6_numbered_58 : decode cX6_numbered 58 = .ok (.iaload, 1) := by decide +kernel
theorem dX6_numbered_59 : decode cX6_numbered 59 = .ok (.iastore, 1) := by decide +kernel
theorem dX6_numbered_60 : decode cX6_numbered 60 = .ok (.aload_n 0, 1) := by decide +kernel
theorem dX6_numbered_61 : decode cX6_numbered 61 = .ok (.getfield 13, 3) := by decide +kernel
theorem dX6_numbered_64 : decode cX6_numbered 64 = .ok (.iload_n 2, 1) := by decide +kernel
theorem dX6_numbered_65 : decode cX6_numbered 65 = .ok (.aload_n 0, 1) := by decide +kernel
theorem dX6_numbered_66 : decode cX6_numbered 66 = .ok (.getfield 13, 3) := by decide +kernel
theorem dX6_numbered_69 : decode cX6_numbered 69 = .ok (.iload_n 3, 1) := by decide +kernel
theorem dX6_numbered_70 : decode cX6_numbered 70 = .ok (.iaload, 1) := by decide +kernel
theorem dX6_numbered_71 : decode cX6_numbered 71 = .ok (.iastore, 1) := by decide +kernel
theorem dX6_numbered_72 : decode cX6_numbered 72 = .ok (.aload_n 0, 1) := by decide +kernel
theorem dX6_numbered_73 : decode cX6_numbered 73 = .ok (.getfield 16, 3) := by decide +kernel
theorem dX6_numbered_76 : decode cX6_numbered 76 = .ok (.iload_n 2, 1) := by decide +kernel
theorem dX6_numbered_77 : decode cX6_numbered 77 = .ok (.aload_n 0, 1) := by decide +kernel
theorem dX6_numbered_78 : decode cX6_numbered 78 = .ok (.getfield 16, 3) := by decide +kernel
theorem dX6_numbered_81 : decode cX6_numbered 81 = .ok (.iload_n 3, 1) := by decide +kernel
theorem dX6_numbered_82 : decode cX6_numbered 82 = .ok (.iaload, 1) := by decide +kernel
theorem dX6_numbered_83 : decode cX6_numbered 83 = .ok (.iastore, 1) := by decide +kernel
theorem dX6_numbered_84 : decode cX6_numbered 84 = .ok (.aload_n 0, 1) := by decide +kernel
theorem dX6_numbered_85 : decode cX6_numbered 85 = .ok (.getfield 19, 3) := by decide +kernel
theorem dX6_numbered_88 : decode cX6_numbered 88 = .ok (.iload_n 2, 1) := by decide +kernel
theorem dX6_numbered_89 : decode cX6_numbered 89 = .ok (.aload_n 0, 1) := by decide +kernel
theorem dX6_numbered_90 : decode cX6_numbered 90 = .ok (.getfield 19, 3) := by decide +kernel
theorem dX6_numbered_93 : decode cX6_numbered 93 = .ok (.iload_n 3, 1) := by decide +kernel
theorem dX6_numbered_94 : decode cX6_numbered 94 = .ok (.iaload, 1) := by decide +kernel
theorem dX6_numbered_95 : decode cX6_numbered 95 = .ok (.iastore, 1) := by decide +kernel
theorem dX6_numbered_96 : decode cX6_numbered 96 = .ok (.aload_n 0, 1) := by decide +kernel
theorem dX6_numbered_97 : decode cX6_numbered 97 = .ok (.getfield 22, 3) := by decide +kernel
theorem dX6_numbered_100 : decode cX6_numbered 100 = .ok (.iload_n 2, 1) := by decide +kernel
theorem dX6_numbered_101 : decode cX6_numbered 101 = .ok (.aload_n 0, 1) := by decide +kernel
theorem dX6_numbered_102 : decode cX6_numbered 102 = .ok (.getfield 22, 3) := by decide +kernel
theorem dX6_numbered_105 : decode cX6_numbered 105 = .ok (.iload_n 3, 1) := by decide +kernel
theorem dX6_numbered_106 : decode cX6_numbered 106 = .ok (.baload, 1) := by decide +kernel
theorem dX6_numbered_107 : decode cX6_numbered 107 = .ok (.bastore, 1) := by decide +kernel
theorem dX6_numbered_108 : decode cX6_numbered 108 = .ok (.aload_n 0, 1) := by decide +kernel
theorem dX6_numbered_109 : decode cX6_numbered 109 = .ok (.getfield 26, 3) := by decide +kernel
theorem dX6_numbered_112 : decode cX6_numbered 112 = .ok (.iload_n 2, 1) := by decide +kernel
theorem dX6_numbered_113 : decode cX6_numbered 113 = .ok (.aload_n 0, 1) := by decide +kernel
theorem dX6_numbered_114 : decode cX6_numbered 114 = .ok (.getfield 26, 3) := by decide +kernel
theorem dX6_numbered_117 : decode cX6_numbered 117 = .ok (.iload_n 3, 1) := by decide +kernel
theorem dX6_numbered_118 : decode cX6_numbered 118 = .ok (.iaload, 1) := by decide +kernel
theorem dX6_numbered_119 : decode cX6_numbered 119 = .ok (.iastore, 1) := by decide +kernel
theorem dX6_numbered_120 : decode cX6_numbered 120 = .ok (.iinc 1 1, 3) := by decide +kernel
theorem dX6_numbered_123 : decode cX6_numbered 123 = .ok (.goto (-95), 3) := by decide +kernel
theorem dX6_numbered_126 : decode cX6_numbered 126 = .ok (.aload_n 0, 1) := by decide +kernel
theorem dX6_numbered_127 : decode cX6_numbered 127 = .ok (.getfield 29, 3) := by decide +kernel
theorem dX6_numbered_130 : decode cX6_numbered 130 = .ok (.aload_n 0, 1) := by decide +kernel
theorem dX6_numbered_131 : decode cX6_numbered 131 = .ok (.getfield 118, 3) := by decide +kernel
theorem dX6_numbered_134 : decode cX6_numbered 134 = .ok (.aload_n 0, 1) := by decide +kernel
