theorem dX6_numbered_135 : decode cX6_numbered 135 = .ok (.getfield 29, 3) := by decide +kernel
theorem dX6_numbered_138 : decode cX6_numbered 138 = .ok (.bipush 36, 2) := by decide +kernel
theorem dX6_numbered_140 : decode cX6_numbered 140 = .ok (.iaload, 1) := by decide +kernel
theorem dX6_numbered_141 : decode cX6_numbered 141 = .ok (.iastore, 1) := by decide +kernel
theorem dX6_numbered_142 : decode cX6_numbered 142 = .ok (.aload_n 0, 1) := by decide +kernel
theorem dX6_numbered_143 : decode cX6_numbered 143 = .ok (.getfield 32, 3) := by decide +kernel
theorem dX6_numbered_146 : decode cX6_numbered 146 = .ok (.aload_n 0, 1) := by decide +kernel
theorem dX6_numbered_147 : decode cX6_numbered 147 = .ok (.getfield 118, 3) := by decide +kernel
theorem dX6_numbered_150 : decode cX6_numbered 150 = .ok (.aload_n 0, 1) := by decide +kernel
theorem dX6_numbered_151 : decode cX6_numbered 151 = .ok (.getfield 32, 3) := by decide +kernel
theorem dX6_numbered_154 : decode cX6_numbered 154 = .ok (.bipush 36, 2) := by decide +kernel
theorem dX6_numbered_156 : decode cX6_numbered 156 = .ok (.iaload, 1) := by decide +kernel
theorem dX6_numbered_157 : decode cX6_numbered 157 = .ok (.iastore, 1) := by decide +kernel
theorem dX6_numbered_158 : decode cX6_numbered 158 = .ok (.aload_n 0, 1) := by decide +kernel
theorem dX6_numbered_159 : decode cX6_numbered 159 = .ok (.dup, 1) := by decide +kernel
theorem dX6_numbered_160 : decode cX6_numbered 160 = .ok (.getfield 118, 3) := by decide +kernel
theorem dX6_numbered_163 : decode cX6_numbered 163 = .ok (.iconst 1, 1) := by decide +kernel
theorem dX6_numbered_164 : decode cX6_numbered 164 = .ok (.iadd, 1) := by decide +kernel
theorem dX6_numbered_165 : decode cX6_numbered 165 = .ok (.putfield 118, 3) := by decide +kernel
theorem dX6_numbered_168 : decode cX6_numbered 168 = .ok (.aload_n 0, 1) := by decide +kernel
theorem dX6_numbered_169 : decode cX6_numbered 169 = .ok (.getfield 118, 3) := by decide +kernel
theorem dX6_numbered_172 : decode cX6_numbered 172 = .ok (.iconst 1, 1) := by decide +kernel
theorem dX6_numbered_173 : decode cX6_numbered 173 = .ok (.isub, 1) := by decide +kernel
theorem dX6_numbered_174 : decode cX6_numbered 174 = .ok (.ireturn, 1) := by decide +kernel
theorem dX6_errorOfRegister_0 : decode cX6_errorOfRegister 0 = .ok (.iload_n 1, 1) := by decide +kernel
theorem dX6_errorOfRegister_1 : decode cX6_errorOfRegister 1 = .ok (.invokestatic 127, 3) := by decide +kernel
theorem dX6_errorOfRegister_4 : decode cX6_errorOfRegister 4 = .ok (.ifCond .ne 5, 3) := by decide +kernel
theorem dX6_errorOfRegister_7 : decode cX6_errorOfRegister 7 = .ok (.iconst 1, 1) := by decide +kernel
theorem dX6_errorOfRegister_8 : decode cX6_errorOfRegister 8 = .ok (.ireturn, 1) := by decide +kernel
theorem dX6_errorOfRegister_9 : decode cX6_errorOfRegister 9 = .ok (.aload_n 0, 1) := by decide +kernel
theorem dX6_errorOfRegister_10 : decode cX6_errorOfRegister 10 = .ok (.getfield 29, 3) := by decide +kernel
theorem dX6_errorOfRegister_13 : decode cX6_errorOfRegister 13 = .ok (.bipush 36, 2) := by decide +kernel
theorem dX6_errorOfRegister_15 : decode cX6_errorOfRegister 15 = .ok (.iaload, 1) := by decide +kernel
theorem dX6_errorOfRegister_16 : decode cX6_errorOfRegister 16 = .ok (.ifCond .ne 5, 3) := by decide +kernel
theorem dX6_errorOfRegister_19 : decode cX6_errorOfRegister 19 = .ok (.iconst 2, 1) := by decide +kernel
theorem dX6_errorOfRegister_20 : decode cX6_errorOfRegister 20 = .ok (.ireturn, 1) := by decide +kernel
theorem dX6_errorOfRegister_21 : decode cX6_errorOfRegister 21 = .ok (.aload_n 0, 1) := by decide +kernel
theorem dX6_errorOfRegister_22 : decode cX6_errorOfRegister 22 = .ok (.iload_n 1, 1) := by decide +kernel
theorem dX6_errorOfRegister_23 : decode cX6_errorOfRegister 23 = .ok (.invokevirtual 136, 3) := by decide +kernel
theorem dX6_errorOfRegister_26 : decode cX6_errorOfRegister 26 = .ok (.iconst (-1), 1) := by decide +kernel
theorem dX6_errorOfRegister_27 : decode cX6_errorOfRegister 27 = .ok (.if_icmp .ne 26, 3) := by decide +kernel
theorem dX6_errorOfRegister_30 : decode cX6_errorOfRegister 30 = .ok (.aload_n 0, 1) := by decide +kernel
theorem dX6_errorOfRegister_31 : decode cX6_errorOfRegister 31 = .ok (.getfield 44, 3) := by decide +kernel
theorem dX6_errorOfRegister_34 : decode cX6_errorOfRegister 34 = .ok (.iload_n 1, 1) := by decide +kernel
theorem dX6_errorOfRegister_35 : decode cX6_errorOfRegister 35 = .ok (.iaload, 1) := by decide +kernel
theorem dX6_errorOfRegister_36 : decode cX6_errorOfRegister 36 = .ok (.bipush 6, 2) := by decide +kernel
theorem dX6_errorOfRegister_38 : decode cX6_errorOfRegister 38 = .ok (.if_icmp .eq 11, 3) := by decide +kernel
theorem dX6_errorOfRegister_41 : decode cX6_errorOfRegister 41 = .ok (.aload_n 0, 1) := by decide +kernel
theorem dX6_errorOfRegister_42 : decode cX6_errorOfRegister 42 = .ok (.iload_n 1, 1) := by decide +kernel
theorem dX6_errorOfRegister_43 : decode cX6_errorOfRegister 43 = .ok (.invokevirtual 130, 3) := by decide +kernel
theorem dX6_errorOfRegister_46 : decode cX6_errorOfRegister 46 = .ok (.ifCond .ne 7, 3) := by decide +kernel
theorem dX6_errorOfRegister_49 : decode cX6_errorOfRegister 49 = .ok (.iconst 2, 1) := by decide +kernel
theorem dX6_errorOfRegister_50 : decode cX6_errorOfRegister 50 = .ok (.goto 4, 3) := by decide +kernel
theorem dX6_errorOfRegister_53 : decode cX6_errorOfRegister 53 = .ok (.iconst 0, 1) := by decide +kernel
theorem dX6_errorOfRegister_54 : decode cX6_errorOfRegister 54 = .ok (.ireturn, 1) := by decide +kernel
theorem dX6_register_0 : decode cX6_register 0 = .ok (.aload_n 0, 1) := by decide +kernel
theorem dX6_register_1 : decode cX6_register 1 = .ok (.aload_n 0, 1) := by decide +kernel
theorem dX6_register_2 : decode cX6_register 2 = .ok (.iload_n 1, 1) := by decide +kernel
theorem dX6_register_3 : decode cX6_register 3 = .ok (.invokevirtual 139, 3) := by decide +kernel
theorem dX6_register_6 : decode cX6_register 6 = .ok (.invokevirtual 102, 3) := by decide +kernel
theorem dX6_register_9 : decode cX6_register 9 = .ok (.ifCond .ne 5, 3) := by decide +kernel
theorem dX6_register_12 : decode cX6_register 12 = .ok (.iconst 0, 1) := by decide +kernel
theorem dX6_register_13 : decode cX6_register 13 = .ok (.ireturn, 1) := by decide +kernel
theorem dX6_register_14 : decode cX6_register 14 = .ok (.aload_n 0, 1) := by decide +kernel
theorem dX6_register_15 : decode cX6_register 15 = .ok (.iload_n 1, 1) := by decide +kernel
theorem dX6_register_16 : decode cX6_register 16 = .ok (.invokevirtual 136, 3) := by decide +kernel
theorem dX6_register_19 : decode cX6_register 19 = .ok (.istore_n 2, 1) := by decide +kernel
theorem dX6_register_20 : decode cX6_register 20 = .ok (.iload_n 2, 1) := by decide +kernel
theorem dX6_register_21 : decode cX6_register 21 = .ok (.iconst (-1), 1) := by decide +kernel
theorem dX6_register_22 : decode cX6_register 22 = .ok (.if_icmp .ne 47, 3) := by decide +kernel
theorem dX6_register_25 : decode cX6_register 25 = .ok (.aload_n 0, 1) := by decide +kernel
theorem dX6_register_26 : decode cX6_register 26 = .ok (.getfield 44, 3) := by decide +kernel
theorem dX6_register_29 : decode cX6_register 29 = .ok (.iload_n 1, 1) := by decide +kernel
theorem dX6_register_30 : decode cX6_register 30 = .ok (.iaload, 1) := by decide +kernel
theorem dX6_register_31 : decode cX6_register 31 = .ok (.istore_n 2, 1) := by decide +kernel
theorem dX6_register_32 : decode cX6_register 32 = .ok (.aload_n 0, 1) := by decide +kernel
theorem dX6_register_33 : decode cX6_register 33 = .ok (.getfield 38, 3) := by decide +kernel
theorem dX6_register_36 : decode cX6_register 36 = .ok (.bipush 6, 2) := by decide +kernel
theorem dX6_register_38 : decode cX6_register 38 = .ok (.iload_n 1, 1) := by decide +kernel
theorem dX6_register_39 : decode cX6_register 39 = .ok (.imul, 1) := by decide +kernel
theorem dX6_register_40 : decode cX6_register 40 = .ok (.iload_n 2, 1) := by decide +kernel
theorem dX6_register_41 : decode cX6_register 41 = .ok (.iadd, 1) := by decide +kernel
theorem dX6_register_42 : decode cX6_register 42 = .ok (.aload_n 0, 1) := by decide +kernel
theorem dX6_register_43 : decode cX6_register 43 = .ok (.invokevirtual 142, 3) := by decide +kernel
theorem dX6_register_46 : decode cX6_register 46 = .ok (.iastore, 1) := by decide +kernel
theorem dX6_register_47 : decode cX6_register 47 = .ok (.aload_n 0, 1) := by decide +kernel
theorem dX6_register_48 : decode cX6_register 48 = .ok (.getfield 41, 3) := by decide +kernel
theorem dX6_register_51 : decode cX6_register 51 = .ok (.bipush 6, 2) := by decide +kernel
theorem dX6_register_53 : decode cX6_register 53 = .ok (.iload_n 1, 1) := by decide +kernel
theorem dX6_register_54 : decode cX6_register 54 = .ok (.imul, 1) := by decide +kernel
theorem dX6_register_55 : decode cX6_register 55 = .ok (.iload_n 2, 1) := by decide +kernel
theorem dX6_register_56 : decode cX6_register 56 = .ok (.iadd, 1) := by decide +kernel
theorem dX6_register_57 : decode cX6_register 57 = .ok (.iconst 1, 1) := by decide +kernel
theorem dX6_register_58 : decode cX6_register 58 = .ok (.iastore, 1) := by decide +kernel
theorem dX6_register_59 : decode cX6_register 59 = .ok (.aload_n 0, 1) := by decide +kernel
theorem dX6_register_60 : decode cX6_register 60 = .ok (.getfield 44, 3) := by decide +kernel
theorem dX6_register_63 : decode cX6_register 63 = .ok (.iload_n 1, 1) := by decide +kernel
theorem dX6_register_64 : decode cX6_register 64 = .ok (.dup2, 1) := by decide +kernel
theorem dX6_register_65 : decode cX6_register 65 = .ok (.iaload, 1) := by decide +kernel
theorem dX6_register_66 : decode cX6_register 66 = .ok (.iconst 1, 1) := by decide +kernel
theorem dX6_register_67 : decode cX6_register 67 = .ok (.iadd, 1) := by decide +kernel
theorem dX6_register_68 : decode cX6_register 68 = .ok (.iastore, 1) := by decide +kernel
theorem dX6_register_69 : decode cX6_register 69 = .ok (.aload_n 0, 1) := by decide +kernel
theorem dX6_register_70 : decode cX6_register 70 = .ok (.invokevirtual 109, 3) := by decide +kernel
theorem dX6_register_73 : decode cX6_register 73 = .ok (.iload_n 2, 1) := by decide +kernel
theorem dX6_register_74 : decode cX6_register 74 = .ok (.ireturn, 1) := by decide +kernel
theorem dX6_setMode_0 : decode cX6_setMode 0 = .ok (.aload_n 0, 1) := by decide +kernel
theorem dX6_setMode_1 : decode cX6_setMode 1 = .ok (.iload_n 1, 1) := by decide +kernel
theorem dX6_setMode_2 : decode cX6_setMode 2 = .ok (.invokestatic 127, 3) := by decide +kernel
theorem dX6_setMode_5 : decode cX6_setMode 5 = .ok (.ifCond .eq 16, 3) := by decide +kernel
theorem dX6_setMode_8 : decode cX6_setMode 8 = .ok (.iload_n 2, 1) := by decide +kernel
theorem dX6_setMode_9 : decode cX6_setMode 9 = .ok (.iconst 0, 1) := by decide +kernel
theorem dX6_setMode_10 : decode cX6_setMode 10 = .ok (.iconst 3, 1) := by decide +kernel
theorem dX6_setMode_11 : decode cX6_setMode 11 = .ok (.invokestatic 75, 3) := by decide +kernel
theorem dX6_setMode_14 : decode cX6_setMode 14 = .ok (.ifCond .eq 7, 3) := by decide +kernel
theorem dX6_setMode_17 : decode cX6_setMode 17 = .ok (.iconst 0, 1) := by decide +kernel
theorem dX6_setMode_18 : decode cX6_setMode 18 = .ok (.goto 4, 3) := by decide +kernel
theorem dX6_setMode_21 : decode cX6_setMode 21 = .ok (.iconst 1, 1) := by decide +kernel
theorem dX6_setMode_22 : decode cX6_setMode 22 = .ok (.invokevirtual 102, 3) := by decide +kernel
theorem dX6_setMode_25 : decode cX6_setMode 25 = .ok (.ifCond .ne 5, 3) := by decide +kernel
theorem dX6_setMode_28 : decode cX6_setMode 28 = .ok (.iconst 0, 1) := by decide +kernel
theorem dX6_setMode_29 : decode cX6_setMode 29 = .ok (.ireturn, 1) := by decide +kernel
theorem dX6_setMode_30 : decode cX6_setMode 30 = .ok (.aload_n 0, 1) := by decide +kernel
theorem dX6_setMode_31 : decode cX6_setMode 31 = .ok (.getfield 47, 3) := by decide +kernel
theorem dX6_setMode_34 : decode cX6_setMode 34 = .ok (.iload_n 1, 1) := by decide +kernel
theorem dX6_setMode_35 : decode cX6_setMode 35 = .ok (.iaload, 1) := by decide +kernel
theorem dX6_setMode_36 : decode cX6_setMode 36 = .ok (.istore 4, 2) := by decide +kernel
theorem dX6_setMode_38 : decode cX6_setMode 38 = .ok (.aload_n 0, 1) := by decide +kernel
theorem dX6_setMode_39 : decode cX6_setMode 39 = .ok (.getfield 47, 3) := by decide +kernel
theorem dX6_setMode_42 : decode cX6_setMode 42 = .ok (.iload_n 1, 1) := by decide +kernel
theorem dX6_setMode_43 : decode cX6_setMode 43 = .ok (.iload_n 2, 1) := by decide +kernel
theorem dX6_setMode_44 : decode cX6_setMode 44 = .ok (.iastore, 1) := by decide +kernel
theorem dX6_setMode_45 : decode cX6_setMode 45 = .ok (.aload_n 0, 1) := by decide +kernel
theorem dX6_setMode_46 : decode cX6_setMode 46 = .ok (.getfield 50, 3) := by decide +kernel
theorem dX6_setMode_49 : decode cX6_setMode 49 = .ok (.iload_n 1, 1) := by decide +kernel
theorem dX6_setMode_50 : decode cX6_setMode 50 = .ok (.iload_n 3, 1) := by decide +kernel
theorem dX6_setMode_51 : decode cX6_setMode 51 = .ok (.bastore, 1) := by decide +kernel
theorem dX6_setMode_52 : decode cX6_setMode 52 = .ok (.iload 4, 2) := by decide +kernel
theorem dX6_setMode_54 : decode cX6_setMode 54 = .ok (.ireturn, 1) := by decide +kernel
theorem dX6_refers_0 : decode cX6_refers 0 = .ok (.iconst 0, 1) := by decide +kernel
theorem dX6_refers_1 : decode cX6_refers 1 = .ok (.istore_n 3, 1) := by decide +kernel
theorem dX6_refers_2 : decode cX6_refers 2 = .ok (.iload_n 3, 1) := by decide +kernel
theorem dX6_refers_3 : decode cX6_refers 3 = .ok (.aload_n 0, 1) := by decide +kernel
theorem dX6_refers_4 : decode cX6_refers 4 = .ok (.getfield 29, 3) := by decide +kernel
theorem dX6_refers_7 : decode cX6_refers 7 = .ok (.iload_n 1, 1) := by decide +kernel
theorem dX6_refers_8 : decode cX6_refers 8 = .ok (.iaload, 1) := by decide +kernel
theorem dX6_refers_9 : decode cX6_refers 9 = .ok (.if_icmp .ge 39, 3) := by decide +kernel
theorem dX6_refers_12 : decode cX6_refers 12 = .ok (.aload_n 0, 1) := by decide +kernel
theorem dX6_refers_13 : decode cX6_refers 13 = .ok (.getfield 13, 3) := by decide +kernel
theorem dX6_refers_16 : decode cX6_refers 16 = .ok (.iconst 5, 1) := by decide +kernel
theorem dX6_refers_17 : decode cX6_refers 17 = .ok (.iload_n 1, 1) := by decide +kernel
theorem dX6_refers_18 : decode cX6_refers 18 = .ok (.imul, 1) := by decide +kernel
theorem dX6_refers_19 : decode cX6_refers 19 = .ok (.iload_n 3, 1) := by decide +kernel
theorem dX6_refers_20 : decode cX6_refers 20 = .ok (.iadd, 1) := by decide +kernel
theorem dX6_refers_21 : decode cX6_refers 21 = .ok (.iaload, 1) := by decide +kernel
theorem dX6_refers_22 : decode cX6_refers 22 = .ok (.iconst 4, 1) := by decide +kernel
theorem dX6_refers_23 : decode cX6_refers 23 = .ok (.if_icmp .ne 19, 3) := by decide +kernel
theorem dX6_refers_26 : decode cX6_refers 26 = .ok (.aload_n 0, 1) := by decide +kernel
theorem dX6_refers_27 : decode cX6_refers 27 = .ok (.getfield 16, 3) := by decide +kernel
theorem dX6_refers_30 : decode cX6_refers 30 = .ok (.iconst 5, 1) := by decide +kernel
theorem dX6_refers_31 : decode cX6_refers 31 = .ok (.iload_n 1, 1) := by decide +kernel
theorem dX6_refers_32 : decode cX6_refers 32 = .ok (.imul, 1) := by decide +kernel
theorem dX6_refers_33 : decode cX6_refers 33 = .ok (.iload_n 3, 1) := by decide +kernel
theorem dX6_refers_34 : decode cX6_refers 34 = .ok (.iadd, 1) := by decide +kernel
theorem dX6_refers_35 : decode cX6_refers 35 = .ok (.iaload, 1) := by decide +kernel
theorem dX6_refers_36 : decode cX6_refers 36 = .ok (.iload_n 2, 1) := by decide +kernel
theorem dX6_refers_37 : decode cX6_refers 37 = .ok (.if_icmp .ne 5, 3) := by decide +kernel
theorem dX6_refers_40 : decode cX6_refers 40 = .ok (.iconst 1, 1) := by decide +kernel
theorem dX6_refers_41 : decode cX6_refers 41 = .ok (.ireturn, 1) := by decide +kernel
theorem dX6_refers_42 : decode cX6_refers 42 = .ok (.iinc 3 1, 3) := by decide +kernel
theorem dX6_refers_45 : decode cX6_refers 45 = .ok (.goto (-43), 3) := by decide +kernel
theorem dX6_refers_48 : decode cX6_refers 48 = .ok (.iconst 0, 1) := by decide +kernel
theorem dX6_refers_49 : decode cX6_refers 49 = .ok (.ireturn, 1) := by decide +kernel
theorem dX6_isReferred_0 : decode cX6_isReferred 0 = .ok (.iconst 0, 1) := by decide +kernel
theorem dX6_isReferred_1 : decode cX6_isReferred 1 = .ok (.istore_n 2, 1) := by decide +kernel
theorem dX6_isReferred_2 : decode cX6_isReferred 2 = .ok (.iload_n 2, 1) := by decide +kernel
theorem dX6_isReferred_3 : decode cX6_isReferred 3 = .ok (.bipush 36, 2) := by decide +kernel
theorem dX6_isReferred_5 : decode cX6_isReferred 5 = .ok (.if_icmp .ge 45, 3) := by decide +kernel
theorem dX6_isReferred_8 : decode cX6_isReferred 8 = .ok (.aload_n 0, 1) := by decide +kernel
theorem dX6_isReferred_9 : decode cX6_isReferred 9 = .ok (.getfield 41, 3) := by decide +kernel
theorem dX6_isReferred_12 : decode cX6_isReferred 12 = .ok (.iload_n 2, 1) := by decide +kernel
theorem dX6_isReferred_13 : decode cX6_isReferred 13 = .ok (.iaload, 1) := by decide +kernel
theorem dX6_isReferred_14 : decode cX6_isReferred 14 = .ok (.iconst 1, 1) := by decide +kernel
theorem dX6_isReferred_15 : decode cX6_isReferred 15 = .ok (.if_icmp .eq 13, 3) := by decide +kernel
theorem dX6_isReferred_18 : decode cX6_isReferred 18 = .ok (.aload_n 0, 1) := by decide +kernel
theorem dX6_isReferred_19 : decode cX6_isReferred 19 = .ok (.getfield 41, 3) := by decide +kernel
theorem dX6_isReferred_22 : decode cX6_isReferred 22 = .ok (.iload_n 2, 1) := by decide +kernel
theorem dX6_isReferred_23 : decode cX6_isReferred 23 = .ok (.iaload, 1) := by decide +kernel
theorem dX6_isReferred_24 : decode cX6_isReferred 24 = .ok (.iconst 2, 1) := by decide +kernel
theorem dX6_isReferred_25 : decode cX6_isReferred 25 = .ok (.if_icmp .ne 19, 3) := by decide +kernel
theorem dX6_isReferred_28 : decode cX6_isReferred 28 = .ok (.aload_n 0, 1) := by decide +kernel
theorem dX6_isReferred_29 : decode cX6_isReferred 29 = .ok (.aload_n 0, 1) := by decide +kernel
theorem dX6_isReferred_30 : decode cX6_isReferred 30 = .ok (.getfield 38, 3) := by decide +kernel
theorem dX6_isReferred_33 : decode cX6_isReferred 33 = .ok (.iload_n 2, 1) := by decide +kernel
theorem dX6_isReferred_34 : decode cX6_isReferred 34 = .ok (.iaload, 1) := by decide +kernel
theorem dX6_isReferred_35 : decode cX6_isReferred 35 = .ok (.iload_n 1, 1) := by decide +kernel
theorem dX6_isReferred_36 : decode cX6_isReferred 36 = .ok (.invokevirtual 146, 3) := by decide +kernel
theorem dX6_isReferred_39 : decode cX6_isReferred 39 = .ok (.ifCond .eq 5, 3) := by decide +kernel
theorem dX6_isReferred_42 : decode cX6_isReferred 42 = .ok (.iconst 1, 1) := by decide +kernel
theorem dX6_isReferred_43 : decode cX6_isReferred 43 = .ok (.ireturn, 1) := by decide +kernel
theorem dX6_isReferred_44 : decode cX6_isReferred 44 = .ok (.iinc 2 1, 3) := by decide +kernel
theorem dX6_isReferred_47 : decode cX6_isReferred 47 = .ok (.goto (-45), 3) := by decide +kernel
theorem dX6_isReferred_50 : decode cX6_isReferred 50 = .ok (.aload_n 0, 1) := by decide +kernel
theorem dX6_isReferred_51 : decode cX6_isReferred 51 = .ok (.bipush 36, 2) := by decide +kernel
theorem dX6_isReferred_53 : decode cX6_isReferred 53 = .ok (.iload_n 1, 1) := by decide +kernel
theorem dX6_isReferred_54 : decode cX6_isReferred 54 = .ok (.invokevirtual 146, 3) := by decide +kernel
theorem dX6_isReferred_57 : decode cX6_isReferred 57 = .ok (.ireturn, 1) := by decide +kernel
theorem dX6_errorOfDelete_0 : decode cX6_errorOfDelete 0 = .ok (.iload_n 1, 1) := by decide +kernel
theorem dX6_errorOfDelete_1 : decode cX6_errorOfDelete 1 = .ok (.invokestatic 127, 3) := by decide +kernel
theorem dX6_errorOfDelete_4 : decode cX6_errorOfDelete 4 = .ok (.ifCond .ne 5, 3) := by decide +kernel
theorem dX6_errorOfDelete_7 : decode cX6_errorOfDelete 7 = .ok (.iconst 1, 1) := by decide +kernel
theorem dX6_errorOfDelete_8 : decode cX6_errorOfDelete 8 = .ok (.ireturn, 1) := by decide +kernel
theorem dX6_errorOfDelete_9 : decode cX6_errorOfDelete 9 = .ok (.aload_n 0, 1) := by decide +kernel
theorem dX6_errorOfDelete_10 : decode cX6_errorOfDelete 10 = .ok (.iload_n 1, 1) := by decide +kernel
theorem dX6_errorOfDelete_11 : decode cX6_errorOfDelete 11 = .ok (.iload_n 2, 1) := by decide +kernel
theorem dX6_errorOfDelete_12 : decode cX6_errorOfDelete 12 = .ok (.invokevirtual 79, 3) := by decide +kernel
theorem dX6_errorOfDelete_15 : decode cX6_errorOfDelete 15 = .ok (.ifCond .ne 5, 3) := by decide +kernel
theorem dX6_errorOfDelete_18 : decode cX6_errorOfDelete 18 = .ok (.iconst 2, 1) := by decide +kernel
theorem dX6_errorOfDelete_19 : decode cX6_errorOfDelete 19 = .ok (.ireturn, 1) := by decide +kernel
theorem dX6_errorOfDelete_20 : decode cX6_errorOfDelete 20 = .ok (.aload_n 0, 1) := by decide +kernel
theorem dX6_errorOfDelete_21 : decode cX6_errorOfDelete 21 = .ok (.iload_n 1, 1) := by decide +kernel
theorem dX6_errorOfDelete_22 : decode cX6_errorOfDelete 22 = .ok (.iload_n 2, 1) := by decide +kernel
theorem dX6_errorOfDelete_23 : decode cX6_errorOfDelete 23 = .ok (.invokevirtual 87, 3) := by decide +kernel
theorem dX6_errorOfDelete_26 : decode cX6_errorOfDelete 26 = .ok (.istore 4, 2) := by decide +kernel
theorem dX6_errorOfDelete_28 : decode cX6_errorOfDelete 28 = .ok (.iload_n 3, 1) := by decide +kernel
theorem dX6_errorOfDelete_29 : decode cX6_errorOfDelete 29 = .ok (.ifCond .eq 29, 3) := by decide +kernel
theorem dX6_errorOfDelete_32 : decode cX6_errorOfDelete 32 = .ok (.iload 4, 2) := by decide +kernel
theorem dX6_errorOfDelete_34 : decode cX6_errorOfDelete 34 = .ok (.ifCond .ne 16, 3) := by decide +kernel
theorem dX6_errorOfDelete_37 : decode cX6_errorOfDelete 37 = .ok (.aload_n 0, 1) := by decide +kernel
theorem dX6_errorOfDelete_38 : decode cX6_errorOfDelete 38 = .ok (.bipush 10, 2) := by decide +kernel
theorem dX6_errorOfDelete_40 : decode cX6_errorOfDelete 40 = .ok (.iload_n 1, 1) := by decide +kernel
theorem dX6_errorOfDelete_41 : decode cX6_errorOfDelete 41 = .ok (.imul, 1) := by decide +kernel
theorem dX6_errorOfDelete_42 : decode cX6_errorOfDelete 42 = .ok (.iload_n 2, 1) := by decide +kernel
theorem dX6_errorOfDelete_43 : decode cX6_errorOfDelete 43 = .ok (.iadd, 1) := by decide +kernel
theorem dX6_errorOfDelete_44 : decode cX6_errorOfDelete 44 = .ok (.invokevirtual 149, 3) := by decide +kernel
theorem dX6_errorOfDelete_47 : decode cX6_errorOfDelete 47 = .ok (.ifCond .eq 7, 3) := by decide +kernel
theorem dX6_errorOfDelete_50 : decode cX6_errorOfDelete 50 = .ok (.iconst 3, 1) := by decide +kernel
theorem dX6_errorOfDelete_51 : decode cX6_errorOfDelete 51 = .ok (.goto 17, 3) := by decide +kernel
theorem dX6_errorOfDelete_54 : decode cX6_errorOfDelete 54 = .ok (.iconst 0, 1) := by decide +kernel
theorem dX6_errorOfDelete_55 : decode cX6_errorOfDelete 55 = .ok (.goto 13, 3) := by decide +kernel
theorem dX6_errorOfDelete_58 : decode cX6_errorOfDelete 58 = .ok (.iload 4, 2) := by decide +kernel
theorem dX6_errorOfDelete_60 : decode cX6_errorOfDelete 60 = .ok (.ifCond .eq 7, 3) := by decide +kernel
theorem dX6_errorOfDelete_63 : decode cX6_errorOfDelete 63 = .ok (.iconst 0, 1) := by decide +kernel
theorem dX6_errorOfDelete_64 : decode cX6_errorOfDelete 64 = .ok (.goto 4, 3) := by decide +kernel
theorem dX6_errorOfDelete_67 : decode cX6_errorOfDelete 67 = .ok (.iconst 3, 1) := by decide +kernel
theorem dX6_errorOfDelete_68 : decode cX6_errorOfDelete 68 = .ok (.ireturn, 1) := by decide +kernel
theorem dX6_delete_0 : decode cX6_delete 0 = .ok (.aload_n 0, 1) := by decide +kernel
theorem dX6_delete_1 : decode cX6_delete 1 = .ok (.aload_n 0, 1) := by decide +kernel
theorem dX6_delete_2 : decode cX6_delete 2 = .ok (.iload_n 1, 1) := by decide +kernel
theorem dX6_delete_3 : decode cX6_delete 3 = .ok (.iload_n 2, 1) := by decide +kernel
theorem dX6_delete_4 : decode cX6_delete 4 = .ok (.iload_n 3, 1) := by decide +kernel
theorem dX6_delete_5 : decode cX6_delete 5 = .ok (.invokevirtual 152, 3) := by decide +kernel
theorem dX6_delete_8 : decode cX6_delete 8 = .ok (.invokevirtual 102, 3) := by decide +kernel
theorem dX6_delete_11 : decode cX6_delete 11 = .ok (.ifCond .ne 5, 3) := by decide +kernel
theorem dX6_delete_14 : decode cX6_delete 14 = .ok (.iconst 0, 1) := by decide +kernel
theorem dX6_delete_15 : decode cX6_delete 15 = .ok (.ireturn, 1) := by decide +kernel
theorem dX6_delete_16 : decode cX6_delete 16 = .ok (.aload_n 0, 1) := by decide +kernel
theorem dX6_delete_17 : decode cX6_delete 17 = .ok (.getfield 41, 3) := by decide +kernel
theorem dX6_delete_20 : decode cX6_delete 20 = .ok (.bipush 6, 2) := by decide +kernel
theorem dX6_delete_22 : decode cX6_delete 22 = .ok (.iload_n 1, 1) := by decide +kernel
theorem dX6_delete_23 : decode cX6_delete 23 = .ok (.imul, 1) := by decide +kernel
theorem dX6_delete_24 : decode cX6_delete 24 = .ok (.iload_n 2, 1) := by decide +kernel
theorem dX6_delete_25 : decode cX6_delete 25 = .ok (.iadd, 1) := by decide +kernel
theorem dX6_delete_26 : decode cX6_delete 26 = .ok (.iload_n 3, 1) := by decide +kernel
theorem dX6_delete_27 : decode cX6_delete 27 = .ok (.ifCond .eq 7, 3) := by decide +kernel
theorem dX6_delete_30 : decode cX6_delete 30 = .ok (.iconst 3, 1) := by decide +kernel
theorem dX6_delete_31 : decode cX6_delete 31 = .ok (.goto 4, 3) := by decide +kernel
theorem dX6_delete_34 : decode cX6_delete 34 = .ok (.iconst 2, 1) := by decide +kernel
theorem dX6_delete_35 : decode cX6_delete 35 = .ok (.iastore, 1) := by decide +kernel
theorem dX6_delete_36 : decode cX6_delete 36 = .ok (.iconst 0, 1) := by decide +kernel
theorem dX6_delete_37 : decode cX6_delete 37 = .ok (.istore 4, 2) := by decide +kernel
theorem dX6_delete_39 : decode cX6_delete 39 = .ok (.iconst 0, 1) := by decide +kernel
theorem dX6_delete_40 : decode cX6_delete 40 = .ok (.istore 5, 2) := by decide +kernel
theorem dX6_delete_42 : decode cX6_delete 42 = .ok (.iload 5, 2) := by decide +kernel
theorem dX6_delete_44 : decode cX6_delete 44 = .ok (.aload_n 0, 1) := by decide +kernel
theorem dX6_delete_45 : decode cX6_delete 45 = .ok (.getfield 44, 3) := by decide +kernel
theorem dX6_delete_48 : decode cX6_delete 48 = .ok (.iload_n 1, 1) := by decide +kernel
theorem dX6_delete_49 : decode cX6_delete 49 = .ok (.iaload, 1) := by decide +kernel
theorem dX6_delete_50 : decode cX6_delete 50 = .ok (.if_icmp .ge 29, 3) := by decide +kernel
theorem dX6_delete_53 : decode cX6_delete 53 = .ok (.iload 4, 2) := by decide +kernel
theorem dX6_delete_55 : decode cX6_delete 55 = .ok (.aload_n 0, 1) := by decide +kernel
theorem dX6_delete_56 : decode cX6_delete 56 = .ok (.iload_n 1, 1) := by decide +kernel
theorem dX6_delete_57 : decode cX6_delete 57 = .ok (.iload 5, 2) := by decide +kernel
theorem dX6_delete_59 : decode cX6_delete 59 = .ok (.invokevirtual 87, 3) := by decide +kernel
theorem dX6_delete_62 : decode cX6_delete 62 = .ok (.ifCond .eq 7, 3) := by decide +kernel
theorem dX6_delete_65 : decode cX6_delete 65 = .ok (.iconst 1, 1) := by decide +kernel
theorem dX6_delete_66 : decode cX6_delete 66 = .ok (.goto 4, 3) := by decide +kernel
theorem dX6_delete_69 : decode cX6_delete 69 = .ok (.iconst 0, 1) := by decide +kernel
theorem dX6_delete_70 : decode cX6_delete 70 = .ok (.iadd, 1) := by decide +kernel
theorem dX6_delete_71 : decode cX6_delete 71 = .ok (.istore 4, 2) := by decide +kernel
theorem dX6_delete_73 : decode cX6_delete 73 = .ok (.iinc 5 1, 3) := by decide +kernel
theorem dX6_delete_76 : decode cX6_delete 76 = .ok (.goto (-34), 3) := by decide +kernel
theorem dX6_delete_79 : decode cX6_delete 79 = .ok (.iload 4, 2) := by decide +kernel
theorem dX6_delete_81 : decode cX6_delete 81 = .ok (.ireturn, 1) := by decide +kernel
theorem dX6_versions_0 : decode cX6_versions 0 = .ok (.aload_n 0, 1) := by decide +kernel
theorem dX6_versions_1 : decode cX6_versions 1 = .ok (.iload_n 1, 1) := by decide +kernel
theorem dX6_versions_2 : decode cX6_versions 2 = .ok (.invokestatic 127, 3) := by decide +kernel
theorem dX6_versions_5 : decode cX6_versions 5 = .ok (.ifCond .eq 7, 3) := by decide +kernel
theorem dX6_versions_8 : decode cX6_versions 8 = .ok (.iconst 0, 1) := by decide +kernel
theorem dX6_versions_9 : decode cX6_versions 9 = .ok (.goto 4, 3) := by decide +kernel
theorem dX6_versions_12 : decode cX6_versions 12 = .ok (.iconst 1, 1) := by decide +kernel
theorem dX6_versions_13 : decode cX6_versions 13 = .ok (.invokevirtual 102, 3) := by decide +kernel
theorem dX6_versions_16 : decode cX6_versions 16 = .ok (.ifCond .eq 12, 3) := by decide +kernel
theorem dX6_versions_19 : decode cX6_versions 19 = .ok (.aload_n 0, 1) := by decide +kernel
theorem dX6_versions_20 : decode cX6_versions 20 = .ok (.getfield 44, 3) := by decide +kernel
theorem dX6_versions_23 : decode cX6_versions 23 = .ok (.iload_n 1, 1) := by decide +kernel
theorem dX6_versions_24 : decode cX6_versions 24 = .ok (.iaload, 1) := by decide +kernel
theorem dX6_versions_25 : decode cX6_versions 25 = .ok (.goto 4, 3) := by decide +kernel
theorem dX6_versions_28 : decode cX6_versions 28 = .ok (.iconst 0, 1) := by decide +kernel
theorem dX6_versions_29 : decode cX6_versions 29 = .ok (.ireturn, 1) := by decide +kernel
theorem dX6_isAsked_0 : decode cX6_isAsked 0 = .ok (.aload_n 0, 1) := by decide +kernel
theorem dX6_isAsked_1 : decode cX6_isAsked 1 = .ok (.iload_n 1, 1) := by decide +kernel
theorem dX6_isAsked_2 : decode cX6_isAsked 2 = .ok (.invokestatic 127, 3) := by decide +kernel
theorem dX6_isAsked_5 : decode cX6_isAsked 5 = .ok (.ifCond .ne 7, 3) := by decide +kernel
theorem dX6_isAsked_8 : decode cX6_isAsked 8 = .ok (.iconst 1, 1) := by decide +kernel
theorem dX6_isAsked_9 : decode cX6_isAsked 9 = .ok (.goto 17, 3) := by decide +kernel
theorem dX6_isAsked_12 : decode cX6_isAsked 12 = .ok (.aload_n 0, 1) := by decide +kernel
theorem dX6_isAsked_13 : decode cX6_isAsked 13 = .ok (.iload_n 1, 1) := by decide +kernel
theorem dX6_isAsked_14 : decode cX6_isAsked 14 = .ok (.iload_n 2, 1) := by decide +kernel
theorem dX6_isAsked_15 : decode cX6_isAsked 15 = .ok (.invokevirtual 79, 3) := by decide +kernel
theorem dX6_isAsked_18 : decode cX6_isAsked 18 = .ok (.ifCond .eq 7, 3) := by decide +kernel
theorem dX6_isAsked_21 : decode cX6_isAsked 21 = .ok (.iconst 0, 1) := by decide +kernel
theorem dX6_isAsked_22 : decode cX6_isAsked 22 = .ok (.goto 4, 3) := by decide +kernel
theorem dX6_isAsked_25 : decode cX6_isAsked 25 = .ok (.iconst 2, 1) := by decide +kernel
theorem dX6_isAsked_26 : decode cX6_isAsked 26 = .ok (.invokevirtual 102, 3) := by decide +kernel
theorem dX6_isAsked_29 : decode cX6_isAsked 29 = .ok (.ireturn, 1) := by decide +kernel
theorem dX6_number_0 : decode cX6_number 0 = .ok (.aload_n 0, 1) := by decide +kernel
theorem dX6_number_1 : decode cX6_number 1 = .ok (.iload_n 1, 1) := by decide +kernel
theorem dX6_number_2 : decode cX6_number 2 = .ok (.iload_n 2, 1) := by decide +kernel
theorem dX6_number_3 : decode cX6_number 3 = .ok (.invokevirtual 156, 3) := by decide +kernel
theorem dX6_number_6 : decode cX6_number 6 = .ok (.ifCond .eq 17, 3) := by decide +kernel
theorem dX6_number_9 : decode cX6_number 9 = .ok (.aload_n 0, 1) := by decide +kernel
theorem dX6_number_10 : decode cX6_number 10 = .ok (.getfield 38, 3) := by decide +kernel
theorem dX6_number_13 : decode cX6_number 13 = .ok (.bipush 6, 2) := by decide +kernel
theorem dX6_number_15 : decode cX6_number 15 = .ok (.iload_n 1, 1) := by decide +kernel
theorem dX6_number_16 : decode cX6_number 16 = .ok (.imul, 1) := by decide +kernel
theorem dX6_number_17 : decode cX6_number 17 = .ok (.iload_n 2, 1) := by decide +kernel
theorem dX6_number_18 : decode cX6_number 18 = .ok (.iadd, 1) := by decide +kernel
theorem dX6_number_19 : decode cX6_number 19 = .ok (.iaload, 1) := by decide +kernel
theorem dX6_number_20 : decode cX6_number 20 = .ok (.goto 4, 3) := by decide +kernel
theorem dX6_number_23 : decode cX6_number 23 = .ok (.iconst 0, 1) := by decide +kernel
theorem dX6_number_24 : decode cX6_number 24 = .ok (.ireturn, 1) := by decide +kernel
theorem dX6_isThere_0 : decode cX6_isThere 0 = .ok (.aload_n 0, 1) := by decide +kernel
theorem dX6_isThere_1 : decode cX6_isThere 1 = .ok (.iload_n 1, 1) := by decide +kernel
theorem dX6_isThere_2 : decode cX6_isThere 2 = .ok (.iload_n 2, 1) := by decide +kernel
theorem dX6_isThere_3 : decode cX6_isThere 3 = .ok (.invokevirtual 156, 3) := by decide +kernel
theorem dX6_isThere_6 : decode cX6_isThere 6 = .ok (.ifCond .eq 16, 3) := by decide +kernel
theorem dX6_isThere_9 : decode cX6_isThere 9 = .ok (.aload_n 0, 1) := by decide +kernel
theorem dX6_isThere_10 : decode cX6_isThere 10 = .ok (.iload_n 1, 1) := by decide +kernel
theorem dX6_isThere_11 : decode cX6_isThere 11 = .ok (.iload_n 2, 1) := by decide +kernel
theorem dX6_isThere_12 : decode cX6_isThere 12 = .ok (.invokevirtual 87, 3) := by decide +kernel
theorem dX6_isThere_15 : decode cX6_isThere 15 = .ok (.ifCond .eq 7, 3) := by decide +kernel
theorem dX6_isThere_18 : decode cX6_isThere 18 = .ok (.iconst 1, 1) := by decide +kernel
theorem dX6_isThere_19 : decode cX6_isThere 19 = .ok (.goto 4, 3) := by decide +kernel
theorem dX6_isThere_22 : decode cX6_isThere 22 = .ok (.iconst 0, 1) := by decide +kernel
theorem dX6_isThere_23 : decode cX6_isThere 23 = .ok (.ireturn, 1) := by decide +kernel
theorem dX6_length_0 : decode cX6_length 0 = .ok (.aload_n 0, 1) := by decide +kernel
theorem dX6_length_1 : decode cX6_length 1 = .ok (.iload_n 1, 1) := by decide +kernel
theorem dX6_length_2 : decode cX6_length 2 = .ok (.iload_n 2, 1) := by decide +kernel
theorem dX6_length_3 : decode cX6_length 3 = .ok (.invokevirtual 156, 3) := by decide +kernel
theorem dX6_length_6 : decode cX6_length 6 = .ok (.ifCond .eq 22, 3) := by decide +kernel
theorem dX6_length_9 : decode cX6_length 9 = .ok (.aload_n 0, 1) := by decide +kernel
theorem dX6_length_10 : decode cX6_length 10 = .ok (.getfield 32, 3) := by decide +kernel
theorem dX6_length_13 : decode cX6_length 13 = .ok (.aload_n 0, 1) := by decide +kernel
theorem dX6_length_14 : decode cX6_length 14 = .ok (.getfield 38, 3) := by decide +kernel
theorem dX6_length_17 : decode cX6_length 17 = .ok (.bipush 6, 2) := by decide +kernel
theorem dX6_length_19 : decode cX6_length 19 = .ok (.iload_n 1, 1) := by decide +kernel
theorem dX6_length_20 : decode cX6_length 20 = .ok (.imul, 1) := by decide +kernel
theorem dX6_length_21 : decode cX6_length 21 = .ok (.iload_n 2, 1) := by decide +kernel
theorem dX6_length_22 : decode cX6_length 22 = .ok (.iadd, 1) := by decide +kernel
theorem dX6_length_23 : decode cX6_length 23 = .ok (.iaload, 1) := by decide +kernel
theorem dX6_length_24 : decode cX6_length 24 = .ok (.iaload, 1) := by decide +kernel
theorem dX6_length_25 : decode cX6_length 25 = .ok (.goto 4, 3) := by decide +kernel
theorem dX6_length_28 : decode cX6_length 28 = .ok (.iconst 0, 1) := by decide +kernel
theorem dX6_length_29 : decode cX6_length 29 = .ok (.ireturn, 1) := by decide +kernel
theorem dX6_errorOfBoth_0 : decode cX6_errorOfBoth 0 = .ok (.iload_n 1, 1) := by decide +kernel
theorem dX6_errorOfBoth_1 : decode cX6_errorOfBoth 1 = .ok (.invokestatic 127, 3) := by decide +kernel
theorem dX6_errorOfBoth_4 : decode cX6_errorOfBoth 4 = .ok (.ifCond .eq 14, 3) := by decide +kernel
theorem dX6_errorOfBoth_7 : decode cX6_errorOfBoth 7 = .ok (.iload_n 3, 1) := by decide +kernel
theorem dX6_errorOfBoth_8 : decode cX6_errorOfBoth 8 = .ok (.invokestatic 127, 3) := by decide +kernel
theorem dX6_errorOfBoth_11 : decode cX6_errorOfBoth 11 = .ok (.ifCond .eq 7, 3) := by decide +kernel
theorem dX6_errorOfBoth_14 : decode cX6_errorOfBoth 14 = .ok (.iconst 1, 1) := by decide +kernel
theorem dX6_errorOfBoth_15 : decode cX6_errorOfBoth 15 = .ok (.goto 4, 3) := by decide +kernel
theorem dX6_errorOfBoth_18 : decode cX6_errorOfBoth 18 = .ok (.iconst 0, 1) := by decide +kernel
theorem dX6_errorOfBoth_19 : decode cX6_errorOfBoth 19 = .ok (.istore 5, 2) := by decide +kernel
theorem dX6_errorOfBoth_21 : decode cX6_errorOfBoth 21 = .ok (.iload 5, 2) := by decide +kernel
theorem dX6_errorOfBoth_23 : decode cX6_errorOfBoth 23 = .ok (.ifCond .ne 7, 3) := by decide +kernel
theorem dX6_errorOfBoth_26 : decode cX6_errorOfBoth 26 = .ok (.iconst 1, 1) := by decide +kernel
theorem dX6_errorOfBoth_27 : decode cX6_errorOfBoth 27 = .ok (.goto 27, 3) := by decide +kernel
theorem dX6_errorOfBoth_30 : decode cX6_errorOfBoth 30 = .ok (.aload_n 0, 1) := by decide +kernel
theorem dX6_errorOfBoth_31 : decode cX6_errorOfBoth 31 = .ok (.iload_n 1, 1) := by decide +kernel
theorem dX6_errorOfBoth_32 : decode cX6_errorOfBoth 32 = .ok (.iload_n 2, 1) := by decide +kernel
theorem dX6_errorOfBoth_33 : decode cX6_errorOfBoth 33 = .ok (.invokevirtual 79, 3) := by decide +kernel
theorem dX6_errorOfBoth_36 : decode cX6_errorOfBoth 36 = .ok (.ifCond .eq 17, 3) := by decide +kernel
theorem dX6_errorOfBoth_39 : decode cX6_errorOfBoth 39 = .ok (.aload_n 0, 1) := by decide +kernel
theorem dX6_errorOfBoth_40 : decode cX6_errorOfBoth 40 = .ok (.iload_n 3, 1) := by decide +kernel
theorem dX6_errorOfBoth_41 : decode cX6_errorOfBoth 41 = .ok (.iload 4, 2) := by decide +kernel
theorem dX6_errorOfBoth_43 : decode cX6_errorOfBoth 43 = .ok (.invokevirtual 79, 3) := by decide +kernel
theorem dX6_errorOfBoth_46 : decode cX6_errorOfBoth 46 = .ok (.ifCond .eq 7, 3) := by decide +kernel
theorem dX6_errorOfBoth_49 : decode cX6_errorOfBoth 49 = .ok (.iconst 0, 1) := by decide +kernel
theorem dX6_errorOfBoth_50 : decode cX6_errorOfBoth 50 = .ok (.goto 4, 3) := by decide +kernel
theorem dX6_errorOfBoth_53 : decode cX6_errorOfBoth 53 = .ok (.iconst 2, 1) := by decide +kernel
theorem dX6_errorOfBoth_54 : decode cX6_errorOfBoth 54 = .ok (.ireturn, 1) := by decide +kernel
theorem dX6_canOf_0 : decode cX6_canOf 0 = .ok (.aload_n 0, 1) := by decide +kernel
theorem dX6_canOf_1 : decode cX6_canOf 1 = .ok (.invokevirtual 124, 3) := by decide +kernel
theorem dX6_canOf_4 : decode cX6_canOf 4 = .ok (.aload_n 0, 1) := by decide +kernel
theorem dX6_canOf_5 : decode cX6_canOf 5 = .ok (.getfield 35, 3) := by decide +kernel
theorem dX6_canOf_8 : decode cX6_canOf 8 = .ok (.bipush 37, 2) := by decide +kernel
theorem dX6_canOf_10 : decode cX6_canOf 10 = .ok (.aload_n 0, 1) := by decide +kernel
theorem dX6_canOf_11 : decode cX6_canOf 11 = .ok (.getfield 38, 3) := by decide +kernel
theorem dX6_canOf_14 : decode cX6_canOf 14 = .ok (.bipush 6, 2) := by decide +kernel
theorem dX6_canOf_16 : decode cX6_canOf 16 = .ok (.iload_n 1, 1) := by decide +kernel
theorem dX6_canOf_17 : decode cX6_canOf 17 = .ok (.imul, 1) := by decide +kernel
theorem dX6_canOf_18 : decode cX6_canOf 18 = .ok (.iload_n 2, 1) := by decide +kernel
theorem dX6_canOf_19 : decode cX6_canOf 19 = .ok (.iadd, 1) := by decide +kernel
theorem dX6_canOf_20 : decode cX6_canOf 20 = .ok (.iaload, 1) := by decide +kernel
theorem dX6_canOf_21 : decode cX6_canOf 21 = .ok (.imul, 1) := by decide +kernel
theorem dX6_canOf_22 : decode cX6_canOf 22 = .ok (.aload_n 0, 1) := by decide +kernel
theorem dX6_canOf_23 : decode cX6_canOf 23 = .ok (.getfield 38, 3) := by decide +kernel
theorem dX6_canOf_26 : decode cX6_canOf 26 = .ok (.bipush 6, 2) := by decide +kernel
theorem dX6_canOf_28 : decode cX6_canOf 28 = .ok (.iload_n 3, 1) := by decide +kernel
theorem dX6_canOf_29 : decode cX6_canOf 29 = .ok (.imul, 1) := by decide +kernel
theorem dX6_canOf_30 : decode cX6_canOf 30 = .ok (.iload 4, 2) := by decide +kernel
theorem dX6_canOf_32 : decode cX6_canOf 32 = .ok (.iadd, 1) := by decide +kernel
theorem dX6_canOf_33 : decode cX6_canOf 33 = .ok (.iaload, 1) := by decide +kernel
theorem dX6_canOf_34 : decode cX6_canOf 34 = .ok (.iadd, 1) := by decide +kernel
theorem dX6_canOf_35 : decode cX6_canOf 35 = .ok (.baload, 1) := by decide +kernel
theorem dX6_canOf_36 : decode cX6_canOf 36 = .ok (.ireturn, 1) := by decide +kernel
theorem dX6_canRead_0 : decode cX6_canRead 0 = .ok (.aload_n 0, 1) := by decide +kernel
theorem dX6_canRead_1 : decode cX6_canRead 1 = .ok (.aload_n 0, 1) := by decide +kernel
theorem dX6_canRead_2 : decode cX6_canRead 2 = .ok (.iload_n 1, 1) := by decide +kernel
theorem dX6_canRead_3 : decode cX6_canRead 3 = .ok (.iload_n 2, 1) := by decide +kernel
theorem dX6_canRead_4 : decode cX6_canRead 4 = .ok (.iload_n 3, 1) := by decide +kernel
theorem dX6_canRead_5 : decode cX6_canRead 5 = .ok (.iload 4, 2) := by decide +kernel
theorem dX6_canRead_7 : decode cX6_canRead 7 = .ok (.invokevirtual 159, 3) := by decide +kernel
theorem dX6_canRead_10 : decode cX6_canRead 10 = .ok (.invokevirtual 102, 3) := by decide +kernel
theorem dX6_canRead_13 : decode cX6_canRead 13 = .ok (.ifCond .eq 19, 3) := by decide +kernel
theorem dX6_canRead_16 : decode cX6_canRead 16 = .ok (.aload_n 0, 1) := by decide +kernel
theorem dX6_canRead_17 : decode cX6_canRead 17 = .ok (.iload_n 1, 1) := by decide +kernel
theorem dX6_canRead_18 : decode cX6_canRead 18 = .ok (.iload_n 2, 1) := by decide +kernel
theorem dX6_canRead_19 : decode cX6_canRead 19 = .ok (.iload_n 3, 1) := by decide +kernel
theorem dX6_canRead_20 : decode cX6_canRead 20 = .ok (.iload 4, 2) := by decide +kernel
theorem dX6_canRead_22 : decode cX6_canRead 22 = .ok (.invokevirtual 162, 3) := by decide +kernel
theorem dX6_canRead_25 : decode cX6_canRead 25 = .ok (.ifCond .eq 7, 3) := by decide +kernel
theorem dX6_canRead_28 : decode cX6_canRead 28 = .ok (.iconst 1, 1) := by decide +kernel
theorem dX6_canRead_29 : decode cX6_canRead 29 = .ok (.goto 4, 3) := by decide +kernel
theorem dX6_canRead_32 : decode cX6_canRead 32 = .ok (.iconst 0, 1) := by decide +kernel
theorem dX6_canRead_33 : decode cX6_canRead 33 = .ok (.ireturn, 1) := by decide +kernel
theorem dX6_small_0 : decode cX6_small 0 = .ok (.iconst 1, 1) := by decide +kernel
theorem dX6_small_1 : decode cX6_small 1 = .ok (.istore_n 2, 1) := by decide +kernel
theorem dX6_small_2 : decode cX6_small 2 = .ok (.iconst 0, 1) := by decide +kernel
theorem dX6_small_3 : decode cX6_small 3 = .ok (.istore_n 3, 1) := by decide +kernel
theorem dX6_small_4 : decode cX6_small 4 = .ok (.aload_n 0, 1) := by decide +kernel
theorem dX6_small_5 : decode cX6_small 5 = .ok (.getfield 59, 3) := by decide +kernel
theorem dX6_small_8 : decode cX6_small 8 = .ok (.iconst 0, 1) := by decide +kernel
theorem dX6_small_9 : decode cX6_small 9 = .ok (.iload_n 1, 1) := by decide +kernel
theorem dX6_small_10 : decode cX6_small 10 = .ok (.iastore, 1) := by decide +kernel
theorem dX6_small_11 : decode cX6_small 11 = .ok (.aload_n 0, 1) := by decide +kernel
theorem dX6_small_12 : decode cX6_small 12 = .ok (.getfield 65, 3) := by decide +kernel
theorem dX6_small_15 : decode cX6_small 15 = .ok (.iconst 0, 1) := by decide +kernel
theorem dX6_small_16 : decode cX6_small 16 = .ok (.iconst 0, 1) := by decide +kernel
theorem dX6_small_17 : decode cX6_small 17 = .ok (.iastore, 1) := by decide +kernel
theorem dX6_small_18 : decode cX6_small 18 = .ok (.iload_n 3, 1) := by decide +kernel
theorem dX6_small_19 : decode cX6_small 19 = .ok (.ifCond .lt 155, 3) := by decide +kernel
theorem dX6_small_22 : decode cX6_small 22 = .ok (.aload_n 0, 1) := by decide +kernel
theorem dX6_small_23 : decode cX6_small 23 = .ok (.getfield 59, 3) := by decide +kernel
theorem dX6_small_26 : decode cX6_small 26 = .ok (.iload_n 3, 1) := by decide +kernel
theorem dX6_small_27 : decode cX6_small 27 = .ok (.iaload, 1) := by decide +kernel
theorem dX6_small_28 : decode cX6_small 28 = .ok (.istore 4, 2) := by decide +kernel
theorem dX6_small_30 : decode cX6_small 30 = .ok (.aload_n 0, 1) := by decide +kernel
theorem dX6_small_31 : decode cX6_small 31 = .ok (.getfield 65, 3) := by decide +kernel
theorem dX6_small_34 : decode cX6_small 34 = .ok (.iload_n 3, 1) := by decide +kernel
theorem dX6_small_35 : decode cX6_small 35 = .ok (.iaload, 1) := by decide +kernel
theorem dX6_small_36 : decode cX6_small 36 = .ok (.aload_n 0, 1) := by decide +kernel
theorem dX6_small_37 : decode cX6_small 37 = .ok (.getfield 29, 3) := by decide +kernel
theorem dX6_small_40 : decode cX6_small 40 = .ok (.iload 4, 2) := by decide +kernel
theorem dX6_small_42 : decode cX6_small 42 = .ok (.iaload, 1) := by decide +kernel
theorem dX6_small_43 : decode cX6_small 43 = .ok (.if_icmp .ne 9, 3) := by decide +kernel
theorem dX6_small_46 : decode cX6_small 46 = .ok (.iinc 3 (-1), 3) := by decide +kernel
theorem dX6_small_49 : decode cX6_small 49 = .ok (.goto 122, 3) := by decide +kernel
theorem dX6_small_52 : decode cX6_small 52 = .ok (.iconst 5, 1) := by decide +kernel
theorem dX6_small_53 : decode cX6_small 53 = .ok (.iload 4, 2) := by decide +kernel
theorem dX6_small_55 : decode cX6_small 55 = .ok (.imul, 1) := by decide +kernel
theorem dX6_small_56 : decode cX6_small 56 = .ok (.aload_n 0, 1) := by decide +kernel
theorem dX6_small_57 : decode cX6_small 57 = .ok (.getfield 65, 3) := by decide +kernel
theorem dX6_small_60 : decode cX6_small 60 = .ok (.iload_n 3, 1) := by decide +kernel
theorem dX6_small_61 : decode cX6_small 61 = .ok (.iaload, 1) := by decide +kernel
theorem dX6_small_62 : decode cX6_small 62 = .ok (.iadd, 1) := by decide +kernel
theorem dX6_small_63 : decode cX6_small 63 = .ok (.istore 5, 2) := by decide +kernel
theorem dX6_small_65 : decode cX6_small 65 = .ok (.aload_n 0, 1) := by decide +kernel
theorem dX6_small_66 : decode cX6_small 66 = .ok (.getfield 65, 3) := by decide +kernel
theorem dX6_small_69 : decode cX6_small 69 = .ok (.iload_n 3, 1) := by decide +kernel
theorem dX6_small_70 : decode cX6_small 70 = .ok (.dup2, 1) := by decide +kernel
theorem dX6_small_71 : decode cX6_small 71 = .ok (.iaload, 1) := by decide +kernel
theorem dX6_small_72 : decode cX6_small 72 = .ok (.iconst 1, 1) := by decide +kernel
theorem dX6_small_73 : decode cX6_small 73 = .ok (.iadd, 1) := by decide +kernel
theorem dX6_small_74 : decode cX6_small 74 = .ok (.iastore, 1) := by decide +kernel
theorem dX6_small_75 : decode cX6_small 75 = .ok (.aload_n 0, 1) := by decide +kernel
theorem dX6_small_76 : decode cX6_small 76 = .ok (.getfield 13, 3) := by decide +kernel
theorem dX6_small_79 : decode cX6_small 79 = .ok (.iload 5, 2) := by decide +kernel
theorem dX6_small_81 : decode cX6_small 81 = .ok (.iaload, 1) := by decide +kernel
theorem dX6_small_82 : decode cX6_small 82 = .ok (.iconst 4, 1) := by decide +kernel
theorem dX6_small_83 : decode cX6_small 83 = .ok (.if_icmp .ne 33, 3) := by decide +kernel
theorem dX6_small_86 : decode cX6_small 86 = .ok (.iinc 3 1, 3) := by decide +kernel
theorem dX6_small_89 : decode cX6_small 89 = .ok (.aload_n 0, 1) := by decide +kernel
theorem dX6_small_90 : decode cX6_small 90 = .ok (.getfield 59, 3) := by decide +kernel
theorem dX6_small_93 : decode cX6_small 93 = .ok (.iload_n 3, 1) := by decide +kernel
theorem dX6_small_94 : decode cX6_small 94 = .ok (.aload_n 0, 1) := by decide +kernel
theorem dX6_small_95 : decode cX6_small 95 = .ok (.aload_n 0, 1) := by decide +kernel
theorem dX6_small_96 : decode cX6_small 96 = .ok (.getfield 16, 3) := by decide +kernel
theorem dX6_small_99 : decode cX6_small 99 = .ok (.iload 5, 2) := by decide +kernel
theorem dX6_small_101 : decode cX6_small 101 = .ok (.iaload, 1) := by decide +kernel
theorem dX6_small_102 : decode cX6_small 102 = .ok (.invokevirtual 90, 3) := by decide +kernel
theorem dX6_small_105 : decode cX6_small 105 = .ok (.iastore, 1) := by decide +kernel
theorem dX6_small_106 : decode cX6_small 106 = .ok (.aload_n 0, 1) := by decide +kernel
theorem dX6_small_107 : decode cX6_small 107 = .ok (.getfield 65, 3) := by decide +kernel
theorem dX6_small_110 : decode cX6_small 110 = .ok (.iload_n 3, 1) := by decide +kernel
theorem dX6_small_111 : decode cX6_small 111 = .ok (.iconst 0, 1) := by decide +kernel
theorem dX6_small_112 : decode cX6_small 112 = .ok (.iastore, 1) := by decide +kernel
theorem dX6_small_113 : decode cX6_small 113 = .ok (.goto 58, 3) := by decide +kernel
theorem dX6_small_116 : decode cX6_small 116 = .ok (.iload_n 2, 1) := by decide +kernel
theorem dX6_small_117 : decode cX6_small 117 = .ok (.aload_n 0, 1) := by decide +kernel
theorem dX6_small_118 : decode cX6_small 118 = .ok (.getfield 13, 3) := by decide +kernel
theorem dX6_small_121 : decode cX6_small 121 = .ok (.iload 5, 2) := by decide +kernel
theorem dX6_small_123 : decode cX6_small 123 = .ok (.iaload, 1) := by decide +kernel
theorem dX6_small_124 : decode cX6_small 124 = .ok (.iconst 2, 1) := by decide +kernel
theorem dX6_small_125 : decode cX6_small 125 = .ok (.if_icmp .ne 7, 3) := by decide +kernel
theorem dX6_small_128 : decode cX6_small 128 = .ok (.iconst 2, 1) := by decide +kernel
theorem dX6_small_129 : decode cX6_small 129 = .ok (.goto 25, 3) := by decide +kernel
theorem dX6_small_132 : decode cX6_small 132 = .ok (.aload_n 0, 1) := by decide +kernel
theorem dX6_small_133 : decode cX6_small 133 = .ok (.getfield 13, 3) := by decide +kernel
theorem dX6_small_136 : decode cX6_small 136 = .ok (.iload 5, 2) := by decide +kernel
theorem dX6_small_138 : decode cX6_small 138 = .ok (.iaload, 1) := by decide +kernel
theorem dX6_small_139 : decode cX6_small 139 = .ok (.iconst 3, 1) := by decide +kernel
theorem dX6_small_140 : decode cX6_small 140 = .ok (.if_icmp .ne 13, 3) := by decide +kernel
theorem dX6_small_143 : decode cX6_small 143 = .ok (.aload_n 0, 1) := by decide +kernel
theorem dX6_small_144 : decode cX6_small 144 = .ok (.getfield 16, 3) := by decide +kernel
theorem dX6_small_147 : decode cX6_small 147 = .ok (.iload 5, 2) := by decide +kernel
theorem dX6_small_149 : decode cX6_small 149 = .ok (.iaload, 1) := by decide +kernel
theorem dX6_small_150 : decode cX6_small 150 = .ok (.goto 4, 3) := by decide +kernel
theorem dX6_small_153 : decode cX6_small 153 = .ok (.iconst 1, 1) := by decide +kernel
theorem dX6_small_154 : decode cX6_small 154 = .ok (.imul, 1) := by decide +kernel
theorem dX6_small_155 : decode cX6_small 155 = .ok (.istore_n 2, 1) := by decide +kernel
theorem dX6_small_156 : decode cX6_small 156 = .ok (.iload_n 2, 1) := by decide +kernel
theorem dX6_small_157 : decode cX6_small 157 = .ok (.sipush 300, 3) := by decide +kernel
theorem dX6_small_160 : decode cX6_small 160 = .ok (.if_icmp .le 9, 3) := by decide +kernel
theorem dX6_small_163 : decode cX6_small 163 = .ok (.sipush 301, 3) := by decide +kernel
theorem dX6_small_166 : decode cX6_small 166 = .ok (.goto 4, 3) := by decide +kernel
theorem dX6_small_169 : decode cX6_small 169 = .ok (.iload_n 2, 1) := by decide +kernel
theorem dX6_small_170 : decode cX6_small 170 = .ok (.istore_n 2, 1) := by decide +kernel
theorem dX6_small_171 : decode cX6_small 171 = .ok (.goto (-153), 3) := by decide +kernel
theorem dX6_small_174 : decode cX6_small 174 = .ok (.iload_n 2, 1) := by decide +kernel
theorem dX6_small_175 : decode cX6_small 175 = .ok (.ireturn, 1) := by decide +kernel
theorem dX6_readsAll_0 : decode cX6_readsAll 0 = .ok (.aload_n 0, 1) := by decide +kernel
theorem dX6_readsAll_1 : decode cX6_readsAll 1 = .ok (.iload_n 1, 1) := by decide +kernel
theorem dX6_readsAll_2 : decode cX6_readsAll 2 = .ok (.iload_n 2, 1) := by decide +kernel
theorem dX6_readsAll_3 : decode cX6_readsAll 3 = .ok (.iload_n 3, 1) := by decide +kernel
theorem dX6_readsAll_4 : decode cX6_readsAll 4 = .ok (.iload 4, 2) := by decide +kernel
theorem dX6_readsAll_6 : decode cX6_readsAll 6 = .ok (.invokevirtual 159, 3) := by decide +kernel
theorem dX6_readsAll_9 : decode cX6_readsAll 9 = .ok (.istore 5, 2) := by decide +kernel
theorem dX6_readsAll_11 : decode cX6_readsAll 11 = .ok (.iload 5, 2) := by decide +kernel
theorem dX6_readsAll_13 : decode cX6_readsAll 13 = .ok (.ifCond .ne 29, 3) := by decide +kernel
theorem dX6_readsAll_16 : decode cX6_readsAll 16 = .ok (.aload_n 0, 1) := by decide +kernel
theorem dX6_readsAll_17 : decode cX6_readsAll 17 = .ok (.aload_n 0, 1) := by decide +kernel
theorem dX6_readsAll_18 : decode cX6_readsAll 18 = .ok (.getfield 38, 3) := by decide +kernel
theorem dX6_readsAll_21 : decode cX6_readsAll 21 = .ok (.bipush 6, 2) := by decide +kernel
theorem dX6_readsAll_23 : decode cX6_readsAll 23 = .ok (.iload_n 3, 1) := by decide +kernel
theorem dX6_readsAll_24 : decode cX6_readsAll 24 = .ok (.imul, 1) := by decide +kernel
theorem dX6_readsAll_25 : decode cX6_readsAll 25 = .ok (.iload 4, 2) := by decide +kernel
theorem dX6_readsAll_27 : decode cX6_readsAll 27 = .ok (.iadd, 1) := by decide +kernel
theorem dX6_readsAll_28 : decode cX6_readsAll 28 = .ok (.iaload, 1) := by decide +kernel
theorem dX6_readsAll_29 : decode cX6_readsAll 29 = .ok (.invokevirtual 165, 3) := by decide +kernel
theorem dX6_readsAll_32 : decode cX6_readsAll 32 = .ok (.sipush 300, 3) := by decide +kernel
theorem dX6_readsAll_35 : decode cX6_readsAll 35 = .ok (.if_icmp .le 7, 3) := by decide +kernel
theorem dX6_readsAll_38 : decode cX6_readsAll 38 = .ok (.iconst 1, 1) := by decide +kernel
theorem dX6_readsAll_39 : decode cX6_readsAll 39 = .ok (.goto 4, 3) := by decide +kernel
theorem dX6_readsAll_42 : decode cX6_readsAll 42 = .ok (.iconst 0, 1) := by decide +kernel
theorem dX6_readsAll_43 : decode cX6_readsAll 43 = .ok (.istore 6, 2) := by decide +kernel
theorem dX6_readsAll_45 : decode cX6_readsAll 45 = .ok (.aload_n 0, 1) := by decide +kernel
theorem dX6_readsAll_46 : decode cX6_readsAll 46 = .ok (.iload 5, 2) := by decide +kernel
theorem dX6_readsAll_48 : decode cX6_readsAll 48 = .ok (.ifCond .le 8, 3) := by decide +kernel
theorem dX6_readsAll_51 : decode cX6_readsAll 51 = .ok (.iload 5, 2) := by decide +kernel
theorem dX6_readsAll_53 : decode cX6_readsAll 53 = .ok (.goto 13, 3) := by decide +kernel
theorem dX6_readsAll_56 : decode cX6_readsAll 56 = .ok (.iload 6, 2) := by decide +kernel
theorem dX6_readsAll_58 : decode cX6_readsAll 58 = .ok (.ifCond .eq 7, 3) := by decide +kernel
theorem dX6_readsAll_61 : decode cX6_readsAll 61 = .ok (.iconst 3, 1) := by decide +kernel
theorem dX6_readsAll_62 : decode cX6_readsAll 62 = .ok (.goto 4, 3) := by decide +kernel
theorem dX6_readsAll_65 : decode cX6_readsAll 65 = .ok (.iconst 0, 1) := by decide +kernel
theorem dX6_readsAll_66 : decode cX6_readsAll 66 = .ok (.invokevirtual 102, 3) := by decide +kernel
theorem dX6_readsAll_69 : decode cX6_readsAll 69 = .ok (.ifCond .eq 19, 3) := by decide +kernel
theorem dX6_readsAll_72 : decode cX6_readsAll 72 = .ok (.aload_n 0, 1) := by decide +kernel
theorem dX6_readsAll_73 : decode cX6_readsAll 73 = .ok (.iload_n 1, 1) := by decide +kernel
theorem dX6_readsAll_74 : decode cX6_readsAll 74 = .ok (.iload_n 2, 1) := by decide +kernel
theorem dX6_readsAll_75 : decode cX6_readsAll 75 = .ok (.iload_n 3, 1) := by decide +kernel
theorem dX6_readsAll_76 : decode cX6_readsAll 76 = .ok (.iload 4, 2) := by decide +kernel
theorem dX6_readsAll_78 : decode cX6_readsAll 78 = .ok (.invokevirtual 162, 3) := by decide +kernel
theorem dX6_readsAll_81 : decode cX6_readsAll 81 = .ok (.ifCond .eq 7, 3) := by decide +kernel
theorem dX6_readsAll_84 : decode cX6_readsAll 84 = .ok (.iconst 1, 1) := by decide +kernel
theorem dX6_readsAll_85 : decode cX6_readsAll 85 = .ok (.goto 4, 3) := by decide +kernel
theorem dX6_readsAll_88 : decode cX6_readsAll 88 = .ok (.iconst 0, 1) := by decide +kernel
theorem dX6_readsAll_89 : decode cX6_readsAll 89 = .ok (.ireturn, 1) := by decide +kernel
theorem dX6_value_0 : decode cX6_value 0 = .ok (.aload_n 0, 1) := by decide +kernel
theorem dX6_value_1 : decode cX6_value 1 = .ok (.aload_n 0, 1) := by decide +kernel
theorem dX6_value_2 : decode cX6_value 2 = .ok (.getfield 168, 3) := by decide +kernel
theorem dX6_value_5 : decode cX6_value 5 = .ok (.bipush 20, 2) := by decide +kernel
theorem dX6_value_7 : decode cX6_value 7 = .ok (.if_icmp .ne 7, 3) := by decide +kernel
theorem dX6_value_10 : decode cX6_value 10 = .ok (.iconst 1, 1) := by decide +kernel
theorem dX6_value_11 : decode cX6_value 11 = .ok (.goto 4, 3) := by decide +kernel
theorem dX6_value_14 : decode cX6_value 14 = .ok (.iconst 0, 1) := by decide +kernel
theorem dX6_value_15 : decode cX6_value 15 = .ok (.invokevirtual 102, 3) := by decide +kernel
theorem dX6_value_18 : decode cX6_value 18 = .ok (.ifCond .ne 5, 3) := by decide +kernel
theorem dX6_value_21 : decode cX6_value 21 = .ok (.iconst 0, 1) := by decide +kernel
theorem dX6_value_22 : decode cX6_value 22 = .ok (.ireturn, 1) := by decide +kernel
theorem dX6_value_23 : decode cX6_value 23 = .ok (.aload_n 0, 1) := by decide +kernel
theorem dX6_value_24 : decode cX6_value 24 = .ok (.getfield 53, 3) := by decide +kernel
theorem dX6_value_27 : decode cX6_value 27 = .ok (.aload_n 0, 1) := by decide +kernel
theorem dX6_value_28 : decode cX6_value 28 = .ok (.getfield 168, 3) := by decide +kernel
theorem dX6_value_31 : decode cX6_value 31 = .ok (.iload_n 1, 1) := by decide +kernel
theorem dX6_value_32 : decode cX6_value 32 = .ok (.iastore, 1) := by decide +kernel
theorem dX6_value_33 : decode cX6_value 33 = .ok (.aload_n 0, 1) := by decide +kernel
theorem dX6_value_34 : decode cX6_value 34 = .ok (.dup, 1) := by decide +kernel
theorem dX6_value_35 : decode cX6_value 35 = .ok (.getfield 168, 3) := by decide +kernel
theorem dX6_value_38 : decode cX6_value 38 = .ok (.iconst 1, 1) := by decide +kernel
theorem dX6_value_39 : decode cX6_value 39 = .ok (.iadd, 1) := by decide +kernel
theorem dX6_value_40 : decode cX6_value 40 = .ok (.putfield 168, 3) := by decide +kernel
theorem dX6_value_43 : decode cX6_value 43 = .ok (.aload_n 0, 1) := by decide +kernel
theorem dX6_value_44 : decode cX6_value 44 = .ok (.getfield 168, 3) := by decide +kernel
theorem dX6_value_47 : decode cX6_value 47 = .ok (.ireturn, 1) := by decide +kernel
theorem dX6_clear_0 : decode cX6_clear 0 = .ok (.aload_n 0, 1) := by decide +kernel
theorem dX6_clear_1 : decode cX6_clear 1 = .ok (.iconst 0, 1) := by decide +kernel
theorem dX6_clear_2 : decode cX6_clear 2 = .ok (.putfield 71, 3) := by decide +kernel
theorem dX6_clear_5 : decode cX6_clear 5 = .ok (.aload_n 0, 1) := by decide +kernel
theorem dX6_clear_6 : decode cX6_clear 6 = .ok (.getfield 168, 3) := by decide +kernel
theorem dX6_clear_9 : decode cX6_clear 9 = .ok (.istore_n 1, 1) := by decide +kernel
theorem dX6_clear_10 : decode cX6_clear 10 = .ok (.aload_n 0, 1) := by decide +kernel
theorem dX6_clear_11 : decode cX6_clear 11 = .ok (.iconst 0, 1) := by decide +kernel
theorem dX6_clear_12 : decode cX6_clear 12 = .ok (.putfield 168, 3) := by decide +kernel
theorem dX6_clear_15 : decode cX6_clear 15 = .ok (.iload_n 1, 1) := by decide +kernel
theorem dX6_clear_16 : decode cX6_clear 16 = .ok (.ireturn, 1) := by decide +kernel
theorem dX6_isRecordOf_0 : decode cX6_isRecordOf 0 = .ok (.iconst 0, 1) := by decide +kernel
theorem dX6_isRecordOf_1 : decode cX6_isRecordOf 1 = .ok (.istore_n 2, 1) := by decide +kernel
theorem dX6_isRecordOf_2 : decode cX6_isRecordOf 2 = .ok (.iconst 0, 1) := by decide +kernel
theorem dX6_isRecordOf_3 : decode cX6_isRecordOf 3 = .ok (.istore_n 3, 1) := by decide +kernel
theorem dX6_isRecordOf_4 : decode cX6_isRecordOf 4 = .ok (.aload_n 0, 1) := by decide +kernel
theorem dX6_isRecordOf_5 : decode cX6_isRecordOf 5 = .ok (.getfield 59, 3) := by decide +kernel
theorem dX6_isRecordOf_8 : decode cX6_isRecordOf 8 = .ok (.iconst 0, 1) := by decide +kernel
theorem dX6_isRecordOf_9 : decode cX6_isRecordOf 9 = .ok (.iload_n 1, 1) := by decide +kernel
theorem dX6_isRecordOf_10 : decode cX6_isRecordOf 10 = .ok (.iastore, 1) := by decide +kernel
theorem dX6_isRecordOf_11 : decode cX6_isRecordOf 11 = .ok (.aload_n 0, 1) := by decide +kernel
theorem dX6_isRecordOf_12 : decode cX6_isRecordOf 12 = .ok (.getfield 65, 3) := by decide +kernel
theorem dX6_isRecordOf_15 : decode cX6_isRecordOf 15 = .ok (.iconst 0, 1) := by decide +kernel
theorem dX6_isRecordOf_16 : decode cX6_isRecordOf 16 = .ok (.iconst 0, 1) := by decide +kernel
theorem dX6_isRecordOf_17 : decode cX6_isRecordOf 17 = .ok (.iastore, 1) := by decide +kernel
theorem dX6_isRecordOf_18 : decode cX6_isRecordOf 18 = .ok (.iload_n 3, 1) := by decide +kernel
theorem dX6_isRecordOf_19 : decode cX6_isRecordOf 19 = .ok (.ifCond .lt 128, 3) := by decide +kernel
theorem dX6_isRecordOf_22 : decode cX6_isRecordOf 22 = .ok (.aload_n 0, 1) := by decide +kernel
theorem dX6_isRecordOf_23 : decode cX6_isRecordOf 23 = .ok (.getfield 59, 3) := by decide +kernel
theorem dX6_isRecordOf_26 : decode cX6_isRecordOf 26 = .ok (.iload_n 3, 1) := by decide +kernel
theorem dX6_isRecordOf_27 : decode cX6_isRecordOf 27 = .ok (.iaload, 1) := by decide +kernel
theorem dX6_isRecordOf_28 : decode cX6_isRecordOf 28 = .ok (.istore 4, 2) := by decide +kernel
theorem dX6_isRecordOf_30 : decode cX6_isRecordOf 30 = .ok (.aload_n 0, 1) := by decide +kernel
theorem dX6_isRecordOf_31 : decode cX6_isRecordOf 31 = .ok (.getfield 65, 3) := by decide +kernel
theorem dX6_isRecordOf_34 : decode cX6_isRecordOf 34 = .ok (.iload_n 3, 1) := by decide +kernel
theorem dX6_isRecordOf_35 : decode cX6_isRecordOf 35 = .ok (.iaload, 1) := by decide +kernel
theorem dX6_isRecordOf_36 : decode cX6_isRecordOf 36 = .ok (.aload_n 0, 1) := by decide +kernel
theorem dX6_isRecordOf_37 : decode cX6_isRecordOf 37 = .ok (.getfield 29, 3) := by decide +kernel
theorem dX6_isRecordOf_40 : decode cX6_isRecordOf 40 = .ok (.iload 4, 2) := by decide +kernel
theorem dX6_isRecordOf_42 : decode cX6_isRecordOf 42 = .ok (.iaload, 1) := by decide +kernel
theorem dX6_isRecordOf_43 : decode cX6_isRecordOf 43 = .ok (.if_icmp .ne 9, 3) := by decide +kernel
theorem dX6_isRecordOf_46 : decode cX6_isRecordOf 46 = .ok (.iinc 3 (-1), 3) := by decide +kernel
theorem dX6_isRecordOf_49 : decode cX6_isRecordOf 49 = .ok (.goto 95, 3) := by decide +kernel
theorem dX6_isRecordOf_52 : decode cX6_isRecordOf 52 = .ok (.iconst 5, 1) := by decide +kernel
theorem dX6_isRecordOf_53 : decode cX6_isRecordOf 53 = .ok (.iload 4, 2) := by decide +kernel
theorem dX6_isRecordOf_55 : decode cX6_isRecordOf 55 = .ok (.imul, 1) := by decide +kernel
theorem dX6_isRecordOf_56 : decode cX6_isRecordOf 56 = .ok (.aload_n 0, 1) := by decide +kernel
theorem dX6_isRecordOf_57 : decode cX6_isRecordOf 57 = .ok (.getfield 65, 3) := by decide +kernel
theorem dX6_isRecordOf_60 : decode cX6_isRecordOf 60 = .ok (.iload_n 3, 1) := by decide +kernel
theorem dX6_isRecordOf_61 : decode cX6_isRecordOf 61 = .ok (.iaload, 1) := by decide +kernel
theorem dX6_isRecordOf_62 : decode cX6_isRecordOf 62 = .ok (.iadd, 1) := by decide +kernel
theorem dX6_isRecordOf_63 : decode cX6_isRecordOf 63 = .ok (.istore 5, 2) := by decide +kernel
theorem dX6_isRecordOf_65 : decode cX6_isRecordOf 65 = .ok (.aload_n 0, 1) := by decide +kernel
theorem dX6_isRecordOf_66 : decode cX6_isRecordOf 66 = .ok (.getfield 65, 3) := by decide +kernel
theorem dX6_isRecordOf_69 : decode cX6_isRecordOf 69 = .ok (.iload_n 3, 1) := by decide +kernel
theorem dX6_isRecordOf_70 : decode cX6_isRecordOf 70 = .ok (.dup2, 1) := by decide +kernel
theorem dX6_isRecordOf_71 : decode cX6_isRecordOf 71 = .ok (.iaload, 1) := by decide +kernel
theorem dX6_isRecordOf_72 : decode cX6_isRecordOf 72 = .ok (.iconst 1, 1) := by decide +kernel
theorem dX6_isRecordOf_73 : decode cX6_isRecordOf 73 = .ok (.iadd, 1) := by decide +kernel
theorem dX6_isRecordOf_74 : decode cX6_isRecordOf 74 = .ok (.iastore, 1) := by decide +kernel
theorem dX6_isRecordOf_75 : decode cX6_isRecordOf 75 = .ok (.aload_n 0, 1) := by decide +kernel
theorem dX6_isRecordOf_76 : decode cX6_isRecordOf 76 = .ok (.getfield 13, 3) := by decide +kernel
theorem dX6_isRecordOf_79 : decode cX6_isRecordOf 79 = .ok (.iload 5, 2) := by decide +kernel
theorem dX6_isRecordOf_81 : decode cX6_isRecordOf 81 = .ok (.iaload, 1) := by decide +kernel
theorem dX6_isRecordOf_82 : decode cX6_isRecordOf 82 = .ok (.iconst 4, 1) := by decide +kernel
theorem dX6_isRecordOf_83 : decode cX6_isRecordOf 83 = .ok (.if_icmp .ne 33, 3) := by decide +kernel
theorem dX6_isRecordOf_86 : decode cX6_isRecordOf 86 = .ok (.iinc 3 1, 3) := by decide +kernel
theorem dX6_isRecordOf_89 : decode cX6_isRecordOf 89 = .ok (.aload_n 0, 1) := by decide +kernel
theorem dX6_isRecordOf_90 : decode cX6_isRecordOf 90 = .ok (.getfield 59, 3) := by decide +kernel
theorem dX6_isRecordOf_93 : decode cX6_isRecordOf 93 = .ok (.iload_n 3, 1) := by decide +kernel
theorem dX6_isRecordOf_94 : decode cX6_isRecordOf 94 = .ok (.aload_n 0, 1) := by decide +kernel
theorem dX6_isRecordOf_95 : decode cX6_isRecordOf 95 = .ok (.aload_n 0, 1) := by decide +kernel
theorem dX6_isRecordOf_96 : decode cX6_isRecordOf 96 = .ok (.getfield 16, 3) := by decide +kernel
theorem dX6_isRecordOf_99 : decode cX6_isRecordOf 99 = .ok (.iload 5, 2) := by decide +kernel
theorem dX6_isRecordOf_101 : decode cX6_isRecordOf 101 = .ok (.iaload, 1) := by decide +kernel
theorem dX6_isRecordOf_102 : decode cX6_isRecordOf 102 = .ok (.invokevirtual 90, 3) := by decide +kernel
theorem dX6_isRecordOf_105 : decode cX6_isRecordOf 105 = .ok (.iastore, 1) := by decide +kernel
theorem dX6_isRecordOf_106 : decode cX6_isRecordOf 106 = .ok (.aload_n 0, 1) := by decide +kernel
theorem dX6_isRecordOf_107 : decode cX6_isRecordOf 107 = .ok (.getfield 65, 3) := by decide +kernel
theorem dX6_isRecordOf_110 : decode cX6_isRecordOf 110 = .ok (.iload_n 3, 1) := by decide +kernel
theorem dX6_isRecordOf_111 : decode cX6_isRecordOf 111 = .ok (.iconst 0, 1) := by decide +kernel
theorem dX6_isRecordOf_112 : decode cX6_isRecordOf 112 = .ok (.iastore, 1) := by decide +kernel
theorem dX6_isRecordOf_113 : decode cX6_isRecordOf 113 = .ok (.goto 31, 3) := by decide +kernel
theorem dX6_isRecordOf_116 : decode cX6_isRecordOf 116 = .ok (.iload_n 2, 1) := by decide +kernel
theorem dX6_isRecordOf_117 : decode cX6_isRecordOf 117 = .ok (.aload_n 0, 1) := by decide +kernel
theorem dX6_isRecordOf_118 : decode cX6_isRecordOf 118 = .ok (.getfield 168, 3) := by decide +kernel
theorem dX6_isRecordOf_121 : decode cX6_isRecordOf 121 = .ok (.if_icmp .eq 18, 3) := by decide +kernel
theorem dX6_isRecordOf_124 : decode cX6_isRecordOf 124 = .ok (.aload_n 0, 1) := by decide +kernel
theorem dX6_isRecordOf_125 : decode cX6_isRecordOf 125 = .ok (.iload 5, 2) := by decide +kernel
theorem dX6_isRecordOf_127 : decode cX6_isRecordOf 127 = .ok (.aload_n 0, 1) := by decide +kernel
theorem dX6_isRecordOf_128 : decode cX6_isRecordOf 128 = .ok (.getfield 53, 3) := by decide +kernel
theorem dX6_isRecordOf_131 : decode cX6_isRecordOf 131 = .ok (.iload_n 2, 1) := by decide +kernel
theorem dX6_isRecordOf_132 : decode cX6_isRecordOf 132 = .ok (.iaload, 1) := by decide +kernel
theorem dX6_isRecordOf_133 : decode cX6_isRecordOf 133 = .ok (.invokevirtual 106, 3) := by decide +kernel
theorem dX6_isRecordOf_136 : decode cX6_isRecordOf 136 = .ok (.ifCond .ne 5, 3) := by decide +kernel
theorem dX6_isRecordOf_139 : decode cX6_isRecordOf 139 = .ok (.iconst 0, 1) := by decide +kernel
theorem dX6_isRecordOf_140 : decode cX6_isRecordOf 140 = .ok (.ireturn, 1) := by decide +kernel
theorem dX6_isRecordOf_141 : decode cX6_isRecordOf 141 = .ok (.iinc 2 1, 3) := by decide +kernel
theorem dX6_isRecordOf_144 : decode cX6_isRecordOf 144 = .ok (.goto (-126), 3) := by decide +kernel
theorem dX6_isRecordOf_147 : decode cX6_isRecordOf 147 = .ok (.iload_n 2, 1) := by decide +kernel
theorem dX6_isRecordOf_148 : decode cX6_isRecordOf 148 = .ok (.aload_n 0, 1) := by decide +kernel
theorem dX6_isRecordOf_149 : decode cX6_isRecordOf 149 = .ok (.getfield 168, 3) := by decide +kernel
theorem dX6_isRecordOf_152 : decode cX6_isRecordOf 152 = .ok (.if_icmp .ne 7, 3) := by decide +kernel
theorem dX6_isRecordOf_155 : decode cX6_isRecordOf 155 = .ok (.iconst 1, 1) := by decide +kernel
theorem dX6_isRecordOf_156 : decode cX6_isRecordOf 156 = .ok (.goto 4, 3) := by decide +kernel
theorem dX6_isRecordOf_159 : decode cX6_isRecordOf 159 = .ok (.iconst 0, 1) := by decide +kernel
theorem dX6_isRecordOf_160 : decode cX6_isRecordOf 160 = .ok (.ireturn, 1) := by decide +kernel
theorem dX6_isRecord_0 : decode cX6_isRecord 0 = .ok (.aload_n 0, 1) := by decide +kernel
theorem dX6_isRecord_1 : decode cX6_isRecord 1 = .ok (.iload_n 1, 1) := by decide +kernel
theorem dX6_isRecord_2 : decode cX6_isRecord 2 = .ok (.iload_n 2, 1) := by decide +kernel
theorem dX6_isRecord_3 : decode cX6_isRecord 3 = .ok (.invokevirtual 156, 3) := by decide +kernel
theorem dX6_isRecord_6 : decode cX6_isRecord 6 = .ok (.ifCond .eq 25, 3) := by decide +kernel
theorem dX6_isRecord_9 : decode cX6_isRecord 9 = .ok (.aload_n 0, 1) := by decide +kernel
theorem dX6_isRecord_10 : decode cX6_isRecord 10 = .ok (.aload_n 0, 1) := by decide +kernel
theorem dX6_isRecord_11 : decode cX6_isRecord 11 = .ok (.getfield 38, 3) := by decide +kernel
theorem dX6_isRecord_14 : decode cX6_isRecord 14 = .ok (.bipush 6, 2) := by decide +kernel
theorem dX6_isRecord_16 : decode cX6_isRecord 16 = .ok (.iload_n 1, 1) := by decide +kernel
theorem dX6_isRecord_17 : decode cX6_isRecord 17 = .ok (.imul, 1) := by decide +kernel
theorem dX6_isRecord_18 : decode cX6_isRecord 18 = .ok (.iload_n 2, 1) := by decide +kernel
theorem dX6_isRecord_19 : decode cX6_isRecord 19 = .ok (.iadd, 1) := by decide +kernel
theorem dX6_isRecord_20 : decode cX6_isRecord 20 = .ok (.iaload, 1) := by decide +kernel
theorem dX6_isRecord_21 : decode cX6_isRecord 21 = .ok (.invokevirtual 171, 3) := by decide +kernel
theorem dX6_isRecord_24 : decode cX6_isRecord 24 = .ok (.ifCond .eq 7, 3) := by decide +kernel
theorem dX6_isRecord_27 : decode cX6_isRecord 27 = .ok (.iconst 1, 1) := by decide +kernel
theorem dX6_isRecord_28 : decode cX6_isRecord 28 = .ok (.goto 4, 3) := by decide +kernel
theorem dX6_isRecord_31 : decode cX6_isRecord 31 = .ok (.iconst 0, 1) := by decide +kernel
theorem dX6_isRecord_32 : decode cX6_isRecord 32 = .ok (.ireturn, 1) := by decide +kernel
theorem dX6_ahead_0 : decode cX6_ahead 0 = .ok (.iconst 0, 1) := by decide +kernel
theorem dX6_ahead_1 : decode cX6_ahead 1 = .ok (.istore_n 3, 1) := by decide +kernel
theorem dX6_ahead_2 : decode cX6_ahead 2 = .ok (.iconst 0, 1) := by decide +kernel
theorem dX6_ahead_3 : decode cX6_ahead 3 = .ok (.istore 4, 2) := by decide +kernel
theorem dX6_ahead_5 : decode cX6_ahead 5 = .ok (.iload 4, 2) := by decide +kernel
theorem dX6_ahead_7 : decode cX6_ahead 7 = .ok (.iload_n 2, 1) := by decide +kernel
theorem dX6_ahead_8 : decode cX6_ahead 8 = .ok (.if_icmp .ge 51, 3) := by decide +kernel
theorem dX6_ahead_11 : decode cX6_ahead 11 = .ok (.iload_n 3, 1) := by decide +kernel
theorem dX6_ahead_12 : decode cX6_ahead 12 = .ok (.aload_n 0, 1) := by decide +kernel
theorem dX6_ahead_13 : decode cX6_ahead 13 = .ok (.getfield 13, 3) := by decide +kernel
theorem dX6_ahead_16 : decode cX6_ahead 16 = .ok (.iconst 5, 1) := by decide +kernel
theorem dX6_ahead_17 : decode cX6_ahead 17 = .ok (.iload_n 1, 1) := by decide +kernel
theorem dX6_ahead_18 : decode cX6_ahead 18 = .ok (.imul, 1) := by decide +kernel
theorem dX6_ahead_19 : decode cX6_ahead 19 = .ok (.iload 4, 2) := by decide +kernel
theorem dX6_ahead_21 : decode cX6_ahead 21 = .ok (.iadd, 1) := by decide +kernel
theorem dX6_ahead_22 : decode cX6_ahead 22 = .ok (.iaload, 1) := by decide +kernel
theorem dX6_ahead_23 : decode cX6_ahead 23 = .ok (.iconst 4, 1) := by decide +kernel
theorem dX6_ahead_24 : decode cX6_ahead 24 = .ok (.if_icmp .ne 26, 3) := by decide +kernel
theorem dX6_ahead_27 : decode cX6_ahead 27 = .ok (.aload_n 0, 1) := by decide +kernel
theorem dX6_ahead_28 : decode cX6_ahead 28 = .ok (.getfield 32, 3) := by decide +kernel
theorem dX6_ahead_31 : decode cX6_ahead 31 = .ok (.aload_n 0, 1) := by decide +kernel
theorem dX6_ahead_32 : decode cX6_ahead 32 = .ok (.aload_n 0, 1) := by decide +kernel
theorem dX6_ahead_33 : decode cX6_ahead 33 = .ok (.getfield 16, 3) := by decide +kernel
theorem dX6_ahead_36 : decode cX6_ahead 36 = .ok (.iconst 5, 1) := by decide +kernel
theorem dX6_ahead_37 : decode cX6_ahead 37 = .ok (.iload_n 1, 1) := by decide +kernel
theorem dX6_ahead_38 : decode cX6_ahead 38 = .ok (.imul, 1) := by decide +kernel
theorem dX6_ahead_39 : decode cX6_ahead 39 = .ok (.iload 4, 2) := by decide +kernel
theorem dX6_ahead_41 : decode cX6_ahead 41 = .ok (.iadd, 1) := by decide +kernel
theorem dX6_ahead_42 : decode cX6_ahead 42 = .ok (.iaload, 1) := by decide +kernel
theorem dX6_ahead_43 : decode cX6_ahead 43 = .ok (.invokevirtual 90, 3) := by decide +kernel
theorem dX6_ahead_46 : decode cX6_ahead 46 = .ok (.iaload, 1) := by decide +kernel
theorem dX6_ahead_47 : decode cX6_ahead 47 = .ok (.goto 4, 3) := by decide +kernel
theorem dX6_ahead_50 : decode cX6_ahead 50 = .ok (.iconst 1, 1) := by decide +kernel
theorem dX6_ahead_51 : decode cX6_ahead 51 = .ok (.iadd, 1) := by decide +kernel
theorem dX6_ahead_52 : decode cX6_ahead 52 = .ok (.istore_n 3, 1) := by decide +kernel
theorem dX6_ahead_53 : decode cX6_ahead 53 = .ok (.iinc 4 1, 3) := by decide +kernel
theorem dX6_ahead_56 : decode cX6_ahead 56 = .ok (.goto (-51), 3) := by decide +kernel
theorem dX6_ahead_59 : decode cX6_ahead 59 = .ok (.iload_n 3, 1) := by decide +kernel
theorem dX6_ahead_60 : decode cX6_ahead 60 = .ok (.ireturn, 1) := by decide +kernel
theorem dX6_reads_0 : decode cX6_reads 0 = .ok (.iconst 0, 1) := by decide +kernel
theorem dX6_reads_1 : decode cX6_reads 1 = .ok (.istore_n 3, 1) := by decide +kernel
theorem dX6_reads_2 : decode cX6_reads 2 = .ok (.iconst 0, 1) := by decide +kernel
theorem dX6_reads_3 : decode cX6_reads 3 = .ok (.istore 4, 2) := by decide +kernel
theorem dX6_reads_5 : decode cX6_reads 5 = .ok (.aload_n 0, 1) := by decide +kernel
theorem dX6_reads_6 : decode cX6_reads 6 = .ok (.getfield 59, 3) := by decide +kernel
theorem dX6_reads_9 : decode cX6_reads 9 = .ok (.iconst 0, 1) := by decide +kernel
theorem dX6_reads_10 : decode cX6_reads 10 = .ok (.iload_n 1, 1) := by decide +kernel
theorem dX6_reads_11 : decode cX6_reads 11 = .ok (.iastore, 1) := by decide +kernel
theorem dX6_reads_12 : decode cX6_reads 12 = .ok (.aload_n 0, 1) := by decide +kernel
theorem dX6_reads_13 : decode cX6_reads 13 = .ok (.getfield 62, 3) := by decide +kernel
theorem dX6_reads_16 : decode cX6_reads 16 = .ok (.iconst 0, 1) := by decide +kernel
theorem dX6_reads_17 : decode cX6_reads 17 = .ok (.iload_n 2, 1) := by decide +kernel
theorem dX6_reads_18 : decode cX6_reads 18 = .ok (.iastore, 1) := by decide +kernel
theorem dX6_reads_19 : decode cX6_reads 19 = .ok (.aload_n 0, 1) := by decide +kernel
theorem dX6_reads_20 : decode cX6_reads 20 = .ok (.getfield 65, 3) := by decide +kernel
theorem dX6_reads_23 : decode cX6_reads 23 = .ok (.iconst 0, 1) := by decide +kernel
theorem dX6_reads_24 : decode cX6_reads 24 = .ok (.iconst 0, 1) := by decide +kernel
theorem dX6_reads_25 : decode cX6_reads 25 = .ok (.iastore, 1) := by decide +kernel
theorem dX6_reads_26 : decode cX6_reads 26 = .ok (.aload_n 0, 1) := by decide +kernel
theorem dX6_reads_27 : decode cX6_reads 27 = .ok (.getfield 68, 3) := by decide +kernel
theorem dX6_reads_30 : decode cX6_reads 30 = .ok (.iconst 0, 1) := by decide +kernel
theorem dX6_reads_31 : decode cX6_reads 31 = .ok (.iconst 0, 1) := by decide +kernel
theorem dX6_reads_32 : decode cX6_reads 32 = .ok (.iastore, 1) := by decide +kernel
theorem dX6_reads_33 : decode cX6_reads 33 = .ok (.iload 4, 2) := by decide +kernel
theorem dX6_reads_35 : decode cX6_reads 35 = .ok (.ifCond .lt 376, 3) := by decide +kernel
theorem dX6_reads_38 : decode cX6_reads 38 = .ok (.aload_n 0, 1) := by decide +kernel
theorem dX6_reads_39 : decode cX6_reads 39 = .ok (.getfield 59, 3) := by decide +kernel
theorem dX6_reads_42 : decode cX6_reads 42 = .ok (.iload 4, 2) := by decide +kernel
theorem dX6_reads_44 : decode cX6_reads 44 = .ok (.iaload, 1) := by decide +kernel
theorem dX6_reads_45 : decode cX6_reads 45 = .ok (.istore 5, 2) := by decide +kernel
theorem dX6_reads_47 : decode cX6_reads 47 = .ok (.aload_n 0, 1) := by decide +kernel
theorem dX6_reads_48 : decode cX6_reads 48 = .ok (.getfield 65, 3) := by decide +kernel
theorem dX6_reads_51 : decode cX6_reads 51 = .ok (.iload 4, 2) := by decide +kernel
theorem dX6_reads_53 : decode cX6_reads 53 = .ok (.iaload, 1) := by decide +kernel
theorem dX6_reads_54 : decode cX6_reads 54 = .ok (.aload_n 0, 1) := by decide +kernel
theorem dX6_reads_55 : decode cX6_reads 55 = .ok (.getfield 29, 3) := by decide +kernel
theorem dX6_reads_58 : decode cX6_reads 58 = .ok (.iload 5, 2) := by decide +kernel
theorem dX6_reads_60 : decode cX6_reads 60 = .ok (.iaload, 1) := by decide +kernel
theorem dX6_reads_61 : decode cX6_reads 61 = .ok (.if_icmp .ne 9, 3) := by decide +kernel
theorem dX6_reads_64 : decode cX6_reads 64 = .ok (.iinc 4 (-1), 3) := by decide +kernel
theorem dX6_reads_67 : decode cX6_reads 67 = .ok (.goto 341, 3) := by decide +kernel
theorem dX6_reads_70 : decode cX6_reads 70 = .ok (.iconst 5, 1) := by decide +kernel
theorem dX6_reads_71 : decode cX6_reads 71 = .ok (.iload 5, 2) := by decide +kernel
theorem dX6_reads_73 : decode cX6_reads 73 = .ok (.imul, 1) := by decide +kernel
theorem dX6_reads_74 : decode cX6_reads 74 = .ok (.aload_n 0, 1) := by decide +kernel
theorem dX6_reads_75 : decode cX6_reads 75 = .ok (.getfield 65, 3) := by decide +kernel
theorem dX6_reads_78 : decode cX6_reads 78 = .ok (.iload 4, 2) := by decide +kernel
theorem dX6_reads_80 : decode cX6_reads 80 = .ok (.iaload, 1) := by decide +kernel
theorem dX6_reads_81 : decode cX6_reads 81 = .ok (.iadd, 1) := by decide +kernel
theorem dX6_reads_82 : decode cX6_reads 82 = .ok (.istore 6, 2) := by decide +kernel
theorem dX6_reads_84 : decode cX6_reads 84 = .ok (.aload_n 0, 1) := by decide +kernel
theorem dX6_reads_85 : decode cX6_reads 85 = .ok (.iload 6, 2) := by decide +kernel
theorem dX6_reads_87 : decode cX6_reads 87 = .ok (.aload_n 0, 1) := by decide +kernel
theorem dX6_reads_88 : decode cX6_reads 88 = .ok (.getfield 62, 3) := by decide +kernel
theorem dX6_reads_91 : decode cX6_reads 91 = .ok (.iload 4, 2) := by decide +kernel
theorem dX6_reads_93 : decode cX6_reads 93 = .ok (.iaload, 1) := by decide +kernel
theorem dX6_reads_94 : decode cX6_reads 94 = .ok (.invokevirtual 112, 3) := by decide +kernel
theorem dX6_reads_97 : decode cX6_reads 97 = .ok (.istore 7, 2) := by decide +kernel
theorem dX6_reads_99 : decode cX6_reads 99 = .ok (.iconst 5, 1) := by decide +kernel
theorem dX6_reads_100 : decode cX6_reads 100 = .ok (.aload_n 0, 1) := by decide +kernel
theorem dX6_reads_101 : decode cX6_reads 101 = .ok (.getfield 62, 3) := by decide +kernel
theorem dX6_reads_104 : decode cX6_reads 104 = .ok (.iload 4, 2) := by decide +kernel
theorem dX6_reads_106 : decode cX6_reads 106 = .ok (.iaload, 1) := by decide +kernel
theorem dX6_reads_107 : decode cX6_reads 107 = .ok (.imul, 1) := by decide +kernel
theorem dX6_reads_108 : decode cX6_reads 108 = .ok (.iload 7, 2) := by decide +kernel
theorem dX6_reads_110 : decode cX6_reads 110 = .ok (.iadd, 1) := by decide +kernel
theorem dX6_reads_111 : decode cX6_reads 111 = .ok (.istore 8, 2) := by decide +kernel
theorem dX6_reads_113 : decode cX6_reads 113 = .ok (.iload 7, 2) := by decide +kernel
theorem dX6_reads_115 : decode cX6_reads 115 = .ok (.iconst (-1), 1) := by decide +kernel
theorem dX6_reads_116 : decode cX6_reads 116 = .ok (.if_icmp .ne 7, 3) := by decide +kernel
theorem dX6_reads_119 : decode cX6_reads 119 = .ok (.iconst 0, 1) := by decide +kernel
theorem dX6_reads_120 : decode cX6_reads 120 = .ok (.goto 24, 3) := by decide +kernel
theorem dX6_reads_123 : decode cX6_reads 123 = .ok (.aload_n 0, 1) := by decide +kernel
theorem dX6_reads_124 : decode cX6_reads 124 = .ok (.getfield 68, 3) := by decide +kernel
theorem dX6_reads_127 : decode cX6_reads 127 = .ok (.iload 4, 2) := by decide +kernel
theorem dX6_reads_129 : decode cX6_reads 129 = .ok (.iaload, 1) := by decide +kernel
theorem dX6_reads_130 : decode cX6_reads 130 = .ok (.aload_n 0, 1) := by decide +kernel
theorem dX6_reads_131 : decode cX6_reads 131 = .ok (.aload_n 0, 1) := by decide +kernel
theorem dX6_reads_132 : decode cX6_reads 132 = .ok (.getfield 62, 3) := by decide +kernel
theorem dX6_reads_135 : decode cX6_reads 135 = .ok (.iload 4, 2) := by decide +kernel
theorem dX6_reads_137 : decode cX6_reads 137 = .ok (.iaload, 1) := by decide +kernel
theorem dX6_reads_138 : decode cX6_reads 138 = .ok (.iload 7, 2) := by decide +kernel
theorem dX6_reads_140 : decode cX6_reads 140 = .ok (.invokevirtual 174, 3) := by decide +kernel
theorem dX6_reads_143 : decode cX6_reads 143 = .ok (.iadd, 1) := by decide +kernel
theorem dX6_reads_144 : decode cX6_reads 144 = .ok (.istore 9, 2) := by decide +kernel
theorem dX6_reads_146 : decode cX6_reads 146 = .ok (.aload_n 0, 1) := by decide +kernel
theorem dX6_reads_147 : decode cX6_reads 147 = .ok (.getfield 65, 3) := by decide +kernel
theorem dX6_reads_150 : decode cX6_reads 150 = .ok (.iload 4, 2) := by decide +kernel
theorem dX6_reads_152 : decode cX6_reads 152 = .ok (.dup2, 1) := by decide +kernel
theorem dX6_reads_153 : decode cX6_reads 153 = .ok (.iaload, 1) := by decide +kernel
theorem dX6_reads_154 : decode cX6_reads 154 = .ok (.iconst 1, 1) := by decide +kernel
theorem dX6_reads_155 : decode cX6_reads 155 = .ok (.iadd, 1) := by decide +kernel
theorem dX6_reads_156 : decode cX6_reads 156 = .ok (.iastore, 1) := by decide +kernel
theorem dX6_reads_157 : decode cX6_reads 157 = .ok (.iload 7, 2) := by decide +kernel
theorem dX6_reads_159 : decode cX6_reads 159 = .ok (.iconst (-1), 1) := by decide +kernel
theorem dX6_reads_160 : decode cX6_reads 160 = .ok (.if_icmp .ne 34, 3) := by decide +kernel
theorem dX6_reads_163 : decode cX6_reads 163 = .ok (.aload_n 0, 1) := by decide +kernel
theorem dX6_reads_164 : decode cX6_reads 164 = .ok (.getfield 22, 3) := by decide +kernel
theorem dX6_reads_167 : decode cX6_reads 167 = .ok (.iload 6, 2) := by decide +kernel
theorem dX6_reads_169 : decode cX6_reads 169 = .ok (.baload, 1) := by decide +kernel
theorem dX6_reads_170 : decode cX6_reads 170 = .ok (.ifCond .ne 5, 3) := by decide +kernel
theorem dX6_reads_173 : decode cX6_reads 173 = .ok (.iconst (-1), 1) := by decide +kernel
theorem dX6_reads_174 : decode cX6_reads 174 = .ok (.ireturn, 1) := by decide +kernel
theorem dX6_reads_175 : decode cX6_reads 175 = .ok (.aload_n 0, 1) := by decide +kernel
theorem dX6_reads_176 : decode cX6_reads 176 = .ok (.getfield 56, 3) := by decide +kernel
theorem dX6_reads_179 : decode cX6_reads 179 = .ok (.iload_n 3, 1) := by decide +kernel
theorem dX6_reads_180 : decode cX6_reads 180 = .ok (.aload_n 0, 1) := by decide +kernel
theorem dX6_reads_181 : decode cX6_reads 181 = .ok (.getfield 26, 3) := by decide +kernel
theorem dX6_reads_184 : decode cX6_reads 184 = .ok (.iload 6, 2) := by decide +kernel
theorem dX6_reads_186 : decode cX6_reads 186 = .ok (.iaload, 1) := by decide +kernel
theorem dX6_reads_187 : decode cX6_reads 187 = .ok (.iastore, 1) := by decide +kernel
theorem dX6_reads_188 : decode cX6_reads 188 = .ok (.iinc 3 1, 3) := by decide +kernel
theorem dX6_reads_191 : decode cX6_reads 191 = .ok (.goto 217, 3) := by decide +kernel
theorem dX6_reads_194 : decode cX6_reads 194 = .ok (.aload_n 0, 1) := by decide +kernel
theorem dX6_reads_195 : decode cX6_reads 195 = .ok (.getfield 13, 3) := by decide +kernel
theorem dX6_reads_198 : decode cX6_reads 198 = .ok (.iload 6, 2) := by decide +kernel
theorem dX6_reads_200 : decode cX6_reads 200 = .ok (.iaload, 1) := by decide +kernel
theorem dX6_reads_201 : decode cX6_reads 201 = .ok (.iconst 4, 1) := by decide +kernel
theorem dX6_reads_202 : decode cX6_reads 202 = .ok (.if_icmp .ne 73, 3) := by decide +kernel
theorem dX6_reads_205 : decode cX6_reads 205 = .ok (.aload_n 0, 1) := by decide +kernel
theorem dX6_reads_206 : decode cX6_reads 206 = .ok (.getfield 13, 3) := by decide +kernel
theorem dX6_reads_209 : decode cX6_reads 209 = .ok (.iload 8, 2) := by decide +kernel
theorem dX6_reads_211 : decode cX6_reads 211 = .ok (.iaload, 1) := by decide +kernel
theorem dX6_reads_212 : decode cX6_reads 212 = .ok (.iconst 4, 1) := by decide +kernel
theorem dX6_reads_213 : decode cX6_reads 213 = .ok (.if_icmp .ne 62, 3) := by decide +kernel
theorem dX6_reads_216 : decode cX6_reads 216 = .ok (.iinc 4 1, 3) := by decide +kernel
theorem dX6_reads_219 : decode cX6_reads 219 = .ok (.aload_n 0, 1) := by decide +kernel
theorem dX6_reads_220 : decode cX6_reads 220 = .ok (.getfield 59, 3) := by decide +kernel
theorem dX6_reads_223 : decode cX6_reads 223 = .ok (.iload 4, 2) := by decide +kernel
theorem dX6_reads_225 : decode cX6_reads 225 = .ok (.aload_n 0, 1) := by decide +kernel
theorem dX6_reads_226 : decode cX6_reads 226 = .ok (.aload_n 0, 1) := by decide +kernel
theorem dX6_reads_227 : decode cX6_reads 227 = .ok (.getfield 16, 3) := by decide +kernel
theorem dX6_reads_230 : decode cX6_reads 230 = .ok (.iload 6, 2) := by decide +kernel
theorem dX6_reads_232 : decode cX6_reads 232 = .ok (.iaload, 1) := by decide +kernel
theorem dX6_reads_233 : decode cX6_reads 233 = .ok (.invokevirtual 90, 3) := by decide +kernel
theorem dX6_reads_236 : decode cX6_reads 236 = .ok (.iastore, 1) := by decide +kernel
theorem dX6_reads_237 : decode cX6_reads 237 = .ok (.aload_n 0, 1) := by decide +kernel
theorem dX6_reads_238 : decode cX6_reads 238 = .ok (.getfield 62, 3) := by decide +kernel
theorem dX6_reads_241 : decode cX6_reads 241 = .ok (.iload 4, 2) := by decide +kernel
theorem dX6_reads_243 : decode cX6_reads 243 = .ok (.aload_n 0, 1) := by decide +kernel
theorem dX6_reads_244 : decode cX6_reads 244 = .ok (.aload_n 0, 1) := by decide +kernel
theorem dX6_reads_245 : decode cX6_reads 245 = .ok (.getfield 16, 3) := by decide +kernel
theorem dX6_reads_248 : decode cX6_reads 248 = .ok (.iload 8, 2) := by decide +kernel
theorem dX6_reads_250 : decode cX6_reads 250 = .ok (.iaload, 1) := by decide +kernel
theorem dX6_reads_251 : decode cX6_reads 251 = .ok (.invokevirtual 90, 3) := by decide +kernel
theorem dX6_reads_254 : decode cX6_reads 254 = .ok (.iastore, 1) := by decide +kernel
theorem dX6_reads_255 : decode cX6_reads 255 = .ok (.aload_n 0, 1) := by decide +kernel
theorem dX6_reads_256 : decode cX6_reads 256 = .ok (.getfield 65, 3) := by decide +kernel
theorem dX6_reads_259 : decode cX6_reads 259 = .ok (.iload 4, 2) := by decide +kernel
theorem dX6_reads_261 : decode cX6_reads 261 = .ok (.iconst 0, 1) := by decide +kernel
theorem dX6_reads_262 : decode cX6_reads 262 = .ok (.iastore, 1) := by decide +kernel
theorem dX6_reads_263 : decode cX6_reads 263 = .ok (.aload_n 0, 1) := by decide +kernel
theorem dX6_reads_264 : decode cX6_reads 264 = .ok (.getfield 68, 3) := by decide +kernel
theorem dX6_reads_267 : decode cX6_reads 267 = .ok (.iload 4, 2) := by decide +kernel
theorem dX6_reads_269 : decode cX6_reads 269 = .ok (.iload 9, 2) := by decide +kernel
theorem dX6_reads_271 : decode cX6_reads 271 = .ok (.iastore, 1) := by decide +kernel
theorem dX6_reads_272 : decode cX6_reads 272 = .ok (.goto 136, 3) := by decide +kernel
theorem dX6_reads_275 : decode cX6_reads 275 = .ok (.aload_n 0, 1) := by decide +kernel
theorem dX6_reads_276 : decode cX6_reads 276 = .ok (.getfield 13, 3) := by decide +kernel
theorem dX6_reads_279 : decode cX6_reads 279 = .ok (.iload 6, 2) := by decide +kernel
theorem dX6_reads_281 : decode cX6_reads 281 = .ok (.iaload, 1) := by decide +kernel
theorem dX6_reads_282 : decode cX6_reads 282 = .ok (.aload_n 0, 1) := by decide +kernel
theorem dX6_reads_283 : decode cX6_reads 283 = .ok (.getfield 13, 3) := by decide +kernel
theorem dX6_reads_286 : decode cX6_reads 286 = .ok (.iload 8, 2) := by decide +kernel
theorem dX6_reads_288 : decode cX6_reads 288 = .ok (.iaload, 1) := by decide +kernel
theorem dX6_reads_289 : decode cX6_reads 289 = .ok (.if_icmp .eq 24, 3) := by decide +kernel
theorem dX6_reads_292 : decode cX6_reads 292 = .ok (.aload_n 0, 1) := by decide +kernel
theorem dX6_reads_293 : decode cX6_reads 293 = .ok (.getfield 13, 3) := by decide +kernel
theorem dX6_reads_296 : decode cX6_reads 296 = .ok (.iload 6, 2) := by decide +kernel
theorem dX6_reads_298 : decode cX6_reads 298 = .ok (.iaload, 1) := by decide +kernel
theorem dX6_reads_299 : decode cX6_reads 299 = .ok (.iconst 1, 1) := by decide +kernel
theorem dX6_reads_300 : decode cX6_reads 300 = .ok (.if_icmp .ne 17, 3) := by decide +kernel
theorem dX6_reads_303 : decode cX6_reads 303 = .ok (.aload_n 0, 1) := by decide +kernel
theorem dX6_reads_304 : decode cX6_reads 304 = .ok (.getfield 13, 3) := by decide +kernel
theorem dX6_reads_307 : decode cX6_reads 307 = .ok (.iload 8, 2) := by decide +kernel
theorem dX6_reads_309 : decode cX6_reads 309 = .ok (.iaload, 1) := by decide +kernel
theorem dX6_reads_310 : decode cX6_reads 310 = .ok (.ifCond .ne 7, 3) := by decide +kernel
theorem dX6_reads_313 : decode cX6_reads 313 = .ok (.iconst 1, 1) := by decide +kernel
theorem dX6_reads_314 : decode cX6_reads 314 = .ok (.goto 4, 3) := by decide +kernel
theorem dX6_reads_317 : decode cX6_reads 317 = .ok (.iconst 0, 1) := by decide +kernel
theorem dX6_reads_318 : decode cX6_reads 318 = .ok (.istore 10, 2) := by decide +kernel
theorem dX6_reads_320 : decode cX6_reads 320 = .ok (.aload_n 0, 1) := by decide +kernel
theorem dX6_reads_321 : decode cX6_reads 321 = .ok (.getfield 13, 3) := by decide +kernel
theorem dX6_reads_324 : decode cX6_reads 324 = .ok (.iload 6, 2) := by decide +kernel
theorem dX6_reads_326 : decode cX6_reads 326 = .ok (.iaload, 1) := by decide +kernel
theorem dX6_reads_327 : decode cX6_reads 327 = .ok (.iconst 3, 1) := by decide +kernel
theorem dX6_reads_328 : decode cX6_reads 328 = .ok (.if_icmp .ne 20, 3) := by decide +kernel
theorem dX6_reads_331 : decode cX6_reads 331 = .ok (.aload_n 0, 1) := by decide +kernel
theorem dX6_reads_332 : decode cX6_reads 332 = .ok (.getfield 53, 3) := by decide +kernel
theorem dX6_reads_335 : decode cX6_reads 335 = .ok (.iload 9, 2) := by decide +kernel
theorem dX6_reads_337 : decode cX6_reads 337 = .ok (.iaload, 1) := by decide +kernel
theorem dX6_reads_338 : decode cX6_reads 338 = .ok (.aload_n 0, 1) := by decide +kernel
theorem dX6_reads_339 : decode cX6_reads 339 = .ok (.getfield 16, 3) := by decide +kernel
theorem dX6_reads_342 : decode cX6_reads 342 = .ok (.iload 6, 2) := by decide +kernel
theorem dX6_reads_344 : decode cX6_reads 344 = .ok (.iaload, 1) := by decide +kernel
theorem dX6_reads_345 : decode cX6_reads 345 = .ok (.if_icmp .ge 7, 3) := by decide +kernel
theorem dX6_reads_348 : decode cX6_reads 348 = .ok (.iconst 1, 1) := by decide +kernel
theorem dX6_reads_349 : decode cX6_reads 349 = .ok (.goto 4, 3) := by decide +kernel
theorem dX6_reads_352 : decode cX6_reads 352 = .ok (.iconst 0, 1) := by decide +kernel
theorem dX6_reads_353 : decode cX6_reads 353 = .ok (.istore 11, 2) := by decide +kernel
theorem dX6_reads_355 : decode cX6_reads 355 = .ok (.iload 10, 2) := by decide +kernel
theorem dX6_reads_357 : decode cX6_reads 357 = .ok (.ifCond .eq 18, 3) := by decide +kernel
theorem dX6_reads_360 : decode cX6_reads 360 = .ok (.iload 11, 2) := by decide +kernel
theorem dX6_reads_362 : decode cX6_reads 362 = .ok (.ifCond .ne 15, 3) := by decide +kernel
theorem dX6_reads_365 : decode cX6_reads 365 = .ok (.aload_n 0, 1) := by decide +kernel
theorem dX6_reads_366 : decode cX6_reads 366 = .ok (.getfield 22, 3) := by decide +kernel
theorem dX6_reads_369 : decode cX6_reads 369 = .ok (.iload 6, 2) := by decide +kernel
theorem dX6_reads_371 : decode cX6_reads 371 = .ok (.baload, 1) := by decide +kernel
theorem dX6_reads_372 : decode cX6_reads 372 = .ok (.ifCond .ne 5, 3) := by decide +kernel
theorem dX6_reads_375 : decode cX6_reads 375 = .ok (.iconst (-1), 1) := by decide +kernel
theorem dX6_reads_376 : decode cX6_reads 376 = .ok (.ireturn, 1) := by decide +kernel
theorem dX6_reads_377 : decode cX6_reads 377 = .ok (.aload_n 0, 1) := by decide +kernel
theorem dX6_reads_378 : decode cX6_reads 378 = .ok (.getfield 56, 3) := by decide +kernel
theorem dX6_reads_381 : decode cX6_reads 381 = .ok (.iload_n 3, 1) := by decide +kernel
theorem dX6_reads_382 : decode cX6_reads 382 = .ok (.iload 11, 2) := by decide +kernel
theorem dX6_reads_384 : decode cX6_reads 384 = .ok (.ifCond .eq 13, 3) := by decide +kernel
theorem dX6_reads_387 : decode cX6_reads 387 = .ok (.aload_n 0, 1) := by decide +kernel
theorem dX6_reads_388 : decode cX6_reads 388 = .ok (.getfield 53, 3) := by decide +kernel
theorem dX6_reads_391 : decode cX6_reads 391 = .ok (.iload 9, 2) := by decide +kernel
theorem dX6_reads_393 : decode cX6_reads 393 = .ok (.iaload, 1) := by decide +kernel
theorem dX6_reads_394 : decode cX6_reads 394 = .ok (.goto 10, 3) := by decide +kernel
theorem dX6_reads_397 : decode cX6_reads 397 = .ok (.aload_n 0, 1) := by decide +kernel
theorem dX6_reads_398 : decode cX6_reads 398 = .ok (.getfield 26, 3) := by decide +kernel
theorem dX6_reads_401 : decode cX6_reads 401 = .ok (.iload 6, 2) := by decide +kernel
theorem dX6_reads_403 : decode cX6_reads 403 = .ok (.iaload, 1) := by decide +kernel
theorem dX6_reads_404 : decode cX6_reads 404 = .ok (.iastore, 1) := by decide +kernel
theorem dX6_reads_405 : decode cX6_reads 405 = .ok (.iinc 3 1, 3) := by decide +kernel
theorem dX6_reads_408 : decode cX6_reads 408 = .ok (.goto (-375), 3) := by decide +kernel
theorem dX6_reads_411 : decode cX6_reads 411 = .ok (.iload_n 3, 1) := by decide +kernel
theorem dX6_reads_412 : decode cX6_reads 412 = .ok (.ireturn, 1) := by decide +kernel
theorem dX6_read_0 : decode cX6_read 0 = .ok (.aload_n 0, 1) := by decide +kernel
theorem dX6_read_1 : decode cX6_read 1 = .ok (.iload_n 1, 1) := by decide +kernel
theorem dX6_read_2 : decode cX6_read 2 = .ok (.iload_n 2, 1) := by decide +kernel
theorem dX6_read_3 : decode cX6_read 3 = .ok (.iload_n 3, 1) := by decide +kernel
theorem dX6_read_4 : decode cX6_read 4 = .ok (.iload 4, 2) := by decide +kernel
theorem dX6_read_6 : decode cX6_read 6 = .ok (.invokevirtual 159, 3) := by decide +kernel
theorem dX6_read_9 : decode cX6_read 9 = .ok (.istore 5, 2) := by decide +kernel
theorem dX6_read_11 : decode cX6_read 11 = .ok (.iconst 0, 1) := by decide +kernel
theorem dX6_read_12 : decode cX6_read 12 = .ok (.istore 6, 2) := by decide +kernel
theorem dX6_read_14 : decode cX6_read 14 = .ok (.iload 5, 2) := by decide +kernel
theorem dX6_read_16 : decode cX6_read 16 = .ok (.ifCond .ne 49, 3) := by decide +kernel
theorem dX6_read_19 : decode cX6_read 19 = .ok (.aload_n 0, 1) := by decide +kernel
theorem dX6_read_20 : decode cX6_read 20 = .ok (.getfield 38, 3) := by decide +kernel
theorem dX6_read_23 : decode cX6_read 23 = .ok (.bipush 6, 2) := by decide +kernel
theorem dX6_read_25 : decode cX6_read 25 = .ok (.iload_n 3, 1) := by decide +kernel
theorem dX6_read_26 : decode cX6_read 26 = .ok (.imul, 1) := by decide +kernel
theorem dX6_read_27 : decode cX6_read 27 = .ok (.iload 4, 2) := by decide +kernel
theorem dX6_read_29 : decode cX6_read 29 = .ok (.iadd, 1) := by decide +kernel
theorem dX6_read_30 : decode cX6_read 30 = .ok (.iaload, 1) := by decide +kernel
theorem dX6_read_31 : decode cX6_read 31 = .ok (.istore 7, 2) := by decide +kernel
theorem dX6_read_33 : decode cX6_read 33 = .ok (.aload_n 0, 1) := by decide +kernel
theorem dX6_read_34 : decode cX6_read 34 = .ok (.iload 7, 2) := by decide +kernel
theorem dX6_read_36 : decode cX6_read 36 = .ok (.invokevirtual 171, 3) := by decide +kernel
theorem dX6_read_39 : decode cX6_read 39 = .ok (.ifCond .eq 23, 3) := by decide +kernel
theorem dX6_read_42 : decode cX6_read 42 = .ok (.aload_n 0, 1) := by decide +kernel
theorem dX6_read_43 : decode cX6_read 43 = .ok (.aload_n 0, 1) := by decide +kernel
theorem dX6_read_44 : decode cX6_read 44 = .ok (.getfield 38, 3) := by decide +kernel
theorem dX6_read_47 : decode cX6_read 47 = .ok (.bipush 6, 2) := by decide +kernel
theorem dX6_read_49 : decode cX6_read 49 = .ok (.iload_n 1, 1) := by decide +kernel
theorem dX6_read_50 : decode cX6_read 50 = .ok (.imul, 1) := by decide +kernel
theorem dX6_read_51 : decode cX6_read 51 = .ok (.iload_n 2, 1) := by decide +kernel
theorem dX6_read_52 : decode cX6_read 52 = .ok (.iadd, 1) := by decide +kernel
theorem dX6_read_53 : decode cX6_read 53 = .ok (.iaload, 1) := by decide +kernel
theorem dX6_read_54 : decode cX6_read 54 = .ok (.iload 7, 2) := by decide +kernel
theorem dX6_read_56 : decode cX6_read 56 = .ok (.invokevirtual 177, 3) := by decide +kernel
theorem dX6_read_59 : decode cX6_read 59 = .ok (.goto 4, 3) := by decide +kernel
theorem dX6_read_62 : decode cX6_read 62 = .ok (.iconst (-1), 1) := by decide +kernel
theorem dX6_read_63 : decode cX6_read 63 = .ok (.istore 6, 2) := by decide +kernel
theorem dX6_read_65 : decode cX6_read 65 = .ok (.aload_n 0, 1) := by decide +kernel
theorem dX6_read_66 : decode cX6_read 66 = .ok (.iload 5, 2) := by decide +kernel
theorem dX6_read_68 : decode cX6_read 68 = .ok (.ifCond .le 8, 3) := by decide +kernel
theorem dX6_read_71 : decode cX6_read 71 = .ok (.iload 5, 2) := by decide +kernel
theorem dX6_read_73 : decode cX6_read 73 = .ok (.goto 14, 3) := by decide +kernel
theorem dX6_read_76 : decode cX6_read 76 = .ok (.iload 6, 2) := by decide +kernel
theorem dX6_read_78 : decode cX6_read 78 = .ok (.iconst (-1), 1) := by decide +kernel
theorem dX6_read_79 : decode cX6_read 79 = .ok (.if_icmp .ne 7, 3) := by decide +kernel
theorem dX6_read_82 : decode cX6_read 82 = .ok (.iconst 3, 1) := by decide +kernel
theorem dX6_read_83 : decode cX6_read 83 = .ok (.goto 4, 3) := by decide +kernel
theorem dX6_read_86 : decode cX6_read 86 = .ok (.iconst 0, 1) := by decide +kernel
theorem dX6_read_87 : decode cX6_read 87 = .ok (.invokevirtual 102, 3) := by decide +kernel
theorem dX6_read_90 : decode cX6_read 90 = .ok (.ifCond .ne 5, 3) := by decide +kernel
theorem dX6_read_93 : decode cX6_read 93 = .ok (.iconst 0, 1) := by decide +kernel
theorem dX6_read_94 : decode cX6_read 94 = .ok (.ireturn, 1) := by decide +kernel
theorem dX6_read_95 : decode cX6_read 95 = .ok (.iconst 0, 1) := by decide +kernel
theorem dX6_read_96 : decode cX6_read 96 = .ok (.istore 7, 2) := by decide +kernel
theorem dX6_read_98 : decode cX6_read 98 = .ok (.iload 7, 2) := by decide +kernel
theorem dX6_read_100 : decode cX6_read 100 = .ok (.iload 6, 2) := by decide +kernel
theorem dX6_read_102 : decode cX6_read 102 = .ok (.if_icmp .ge 23, 3) := by decide +kernel
theorem dX6_read_105 : decode cX6_read 105 = .ok (.aload_n 0, 1) := by decide +kernel
theorem dX6_read_106 : decode cX6_read 106 = .ok (.getfield 53, 3) := by decide +kernel
theorem dX6_read_109 : decode cX6_read 109 = .ok (.iload 7, 2) := by decide +kernel
theorem dX6_read_111 : decode cX6_read 111 = .ok (.aload_n 0, 1) := by decide +kernel
theorem dX6_read_112 : decode cX6_read 112 = .ok (.getfield 56, 3) := by decide +kernel
theorem dX6_read_115 : decode cX6_read 115 = .ok (.iload 7, 2) := by decide +kernel
theorem dX6_read_117 : decode cX6_read 117 = .ok (.iaload, 1) := by decide +kernel
theorem dX6_read_118 : decode cX6_read 118 = .ok (.iastore, 1) := by decide +kernel
theorem dX6_read_119 : decode cX6_read 119 = .ok (.iinc 7 1, 3) := by decide +kernel
theorem dX6_read_122 : decode cX6_read 122 = .ok (.goto (-24), 3) := by decide +kernel
theorem dX6_read_125 : decode cX6_read 125 = .ok (.aload_n 0, 1) := by decide +kernel
theorem dX6_read_126 : decode cX6_read 126 = .ok (.iload 6, 2) := by decide +kernel
theorem dX6_read_128 : decode cX6_read 128 = .ok (.putfield 168, 3) := by decide +kernel
theorem dX6_read_131 : decode cX6_read 131 = .ok (.iload 6, 2) := by decide +kernel
theorem dX6_read_133 : decode cX6_read 133 = .ok (.ireturn, 1) := by decide +kernel
theorem dX6_valueAt_0 : decode cX6_valueAt 0 = .ok (.aload_n 0, 1) := by decide +kernel
theorem dX6_valueAt_1 : decode cX6_valueAt 1 = .ok (.iload_n 1, 1) := by decide +kernel
theorem dX6_valueAt_2 : decode cX6_valueAt 2 = .ok (.iconst 0, 1) := by decide +kernel
theorem dX6_valueAt_3 : decode cX6_valueAt 3 = .ok (.aload_n 0, 1) := by decide +kernel
theorem dX6_valueAt_4 : decode cX6_valueAt 4 = .ok (.getfield 168, 3) := by decide +kernel
theorem dX6_valueAt_7 : decode cX6_valueAt 7 = .ok (.iconst 1, 1) := by decide +kernel
theorem dX6_valueAt_8 : decode cX6_valueAt 8 = .ok (.isub, 1) := by decide +kernel
theorem dX6_valueAt_9 : decode cX6_valueAt 9 = .ok (.invokestatic 75, 3) := by decide +kernel
theorem dX6_valueAt_12 : decode cX6_valueAt 12 = .ok (.ifCond .eq 7, 3) := by decide +kernel
theorem dX6_valueAt_15 : decode cX6_valueAt 15 = .ok (.iconst 0, 1) := by decide +kernel
theorem dX6_valueAt_16 : decode cX6_valueAt 16 = .ok (.goto 4, 3) := by decide +kernel
theorem dX6_valueAt_19 : decode cX6_valueAt 19 = .ok (.iconst 1, 1) := by decide +kernel
theorem dX6_valueAt_20 : decode cX6_valueAt 20 = .ok (.invokevirtual 102, 3) := by decide +kernel
theorem dX6_valueAt_23 : decode cX6_valueAt 23 = .ok (.ifCond .eq 12, 3) := by decide +kernel
theorem dX6_valueAt_26 : decode cX6_valueAt 26 = .ok (.aload_n 0, 1) := by decide +kernel
theorem dX6_valueAt_27 : decode cX6_valueAt 27 = .ok (.getfield 53, 3) := by decide +kernel
theorem dX6_valueAt_30 : decode cX6_valueAt 30 = .ok (.iload_n 1, 1) := by decide +kernel
theorem dX6_valueAt_31 : decode cX6_valueAt 31 = .ok (.iaload, 1) := by decide +kernel
theorem dX6_valueAt_32 : decode cX6_valueAt 32 = .ok (.goto 4, 3) := by decide +kernel
theorem dX6_valueAt_35 : decode cX6_valueAt 35 = .ok (.iconst 0, 1) := by decide +kernel
theorem dX6_valueAt_36 : decode cX6_valueAt 36 = .ok (.ireturn, 1) := by decide +kernel
theorem dJ9_max_7cf53_0 : decode cJ9_max_7cf53 0 = .ok (.iload_n 0, 1) := by decide +kernel
theorem dJ9_max_7cf53_1 : decode cJ9_max_7cf53 1 = .ok (.iload_n 1, 1) := by decide +kernel
theorem dJ9_max_7cf53_2 : decode cJ9_max_7cf53 2 = .ok (.if_icmp .lt 7, 3) := by decide +kernel
theorem dJ9_max_7cf53_5 : decode cJ9_max_7cf53 5 = .ok (.iload_n 0, 1) := by decide +kernel
theorem dJ9_max_7cf53_6 : decode cJ9_max_7cf53 6 = .ok (.goto 4, 3) := by decide +kernel
theorem dJ9_max_7cf53_9 : decode cJ9_max_7cf53 9 = .ok (.iload_n 1, 1) := by decide +kernel
theorem dJ9_max_7cf53_10 : decode cJ9_max_7cf53 10 = .ok (.ireturn, 1) := by decide +kernel
theorem dJ9_min_7cf53_0 : decode cJ9_min_7cf53 0 = .ok (.iload_n 0, 1) := by decide +kernel
theorem dJ9_min_7cf53_1 : decode cJ9_min_7cf53 1 = .ok (.iload_n 1, 1) := by decide +kernel
theorem dJ9_min_7cf53_2 : decode cJ9_min_7cf53 2 = .ok (.if_icmp .gt 7, 3) := by decide +kernel
theorem dJ9_min_7cf53_5 : decode cJ9_min_7cf53 5 = .ok (.iload_n 0, 1) := by decide +kernel
theorem dJ9_min_7cf53_6 : decode cJ9_min_7cf53 6 = .ok (.goto 4, 3) := by decide +kernel
theorem dJ9_min_7cf53_9 : decode cJ9_min_7cf53 9 = .ok (.iload_n 1, 1) := by decide +kernel
theorem dJ9_min_7cf53_10 : decode cJ9_min_7cf53 10 = .ok (.ireturn, 1) := by decide +kernel
theorem dJxa1e45_init_da8c8_0 : decode cJxa1e45_init_da8c8 0 = .ok (.aload_n 0, 1) := by decide +kernel
theorem dJxa1e45_init_da8c8_1 : decode cJxa1e45_init_da8c8 1 = .ok (.invokespecial 1, 3) := by decide +kernel
theorem dJxa1e45_init_da8c8_4 : decode cJxa1e45_init_da8c8 4 = .ok (.return_, 1) := by decide +kernel
theorem dJxc12de_init_da8c8_0 : decode cJxc12de_init_da8c8 0 = .ok (.aload_n 0, 1) := by decide +kernel
theorem dJxc12de_init_da8c8_1 : decode cJxc12de_init_da8c8 1 = .ok (.invokespecial 1, 3) := by decide +kernel
theorem dJxc12de_init_da8c8_4 : decode cJxc12de_init_da8c8 4 = .ok (.aload_n 0, 1) := by decide +kernel
theorem dJxc12de_init_da8c8_5 : decode cJxc12de_init_da8c8 5 = .ok (.iconst 0, 1) := by decide +kernel
theorem dJxc12de_init_da8c8_6 : decode cJxc12de_init_da8c8 6 = .ok (.putfield 7, 3) := by decide +kernel
theorem dJxc12de_init_da8c8_9 : decode cJxc12de_init_da8c8 9 = .ok (.return_, 1) := by decide +kernel
theorem dJx4a65c_init_da8c8_0 : decode cJx4a65c_init_da8c8 0 = .ok (.aload_n 0, 1) := by decide +kernel
theorem dJx4a65c_init_da8c8_1 : decode cJx4a65c_init_da8c8 1 = .ok (.invokespecial 1, 3) := by decide +kernel
theorem dJx4a65c_init_da8c8_4 : decode cJx4a65c_init_da8c8 4 = .ok (.aload_n 0, 1) := by decide +kernel
theorem dJx4a65c_init_da8c8_5 : decode cJx4a65c_init_da8c8 5 = .ok (.getstatic 39, 3) := by decide +kernel
theorem dJx4a65c_init_da8c8_8 : decode cJx4a65c_init_da8c8 8 = .ok (.putfield 9, 3) := by decide +kernel
theorem dJx4a65c_init_da8c8_11 : decode cJx4a65c_init_da8c8 11 = .ok (.return_, 1) := by decide +kernel
theorem dJx4a65c_grow_92f84_0 : decode cJx4a65c_grow_92f84 0 = .ok (.aload_n 0, 1) := by decide +kernel
theorem dJx4a65c_grow_92f84_1 : decode cJx4a65c_grow_92f84 1 = .ok (.getfield 9, 3) := by decide +kernel
theorem dJx4a65c_grow_92f84_4 : decode cJx4a65c_grow_92f84 4 = .ok (.arraylength, 1) := by decide +kernel
theorem dJx4a65c_grow_92f84_5 : decode cJx4a65c_grow_92f84 5 = .ok (.istore_n 2, 1) := by decide +kernel
theorem dJx4a65c_grow_92f84_6 : decode cJx4a65c_grow_92f84 6 = .ok (.iload_n 2, 1) := by decide +kernel
theorem dJx4a65c_grow_92f84_7 : decode cJx4a65c_grow_92f84 7 = .ok (.ifCond .gt 13, 3) := by decide +kernel
theorem dJx4a65c_grow_92f84_10 : decode cJx4a65c_grow_92f84 10 = .ok (.aload_n 0, 1) := by decide +kernel
theorem dJx4a65c_grow_92f84_11 : decode cJx4a65c_grow_92f84 11 = .ok (.getfield 9, 3) := by decide +kernel
theorem dJx4a65c_grow_92f84_14 : decode cJx4a65c_grow_92f84 14 = .ok (.getstatic 39, 3) := by decide +kernel
theorem dJx4a65c_grow_92f84_17 : decode cJx4a65c_grow_92f84 17 = .ok (.if_acmp .eq 28, 3) := by decide +kernel
theorem dJx4a65c_grow_92f84_20 : decode cJx4a65c_grow_92f84 20 = .ok (.iload_n 2, 1) := by decide +kernel
theorem dJx4a65c_grow_92f84_21 : decode cJx4a65c_grow_92f84 21 = .ok (.iload_n 1, 1) := by decide +kernel
theorem dJx4a65c_grow_92f84_22 : decode cJx4a65c_grow_92f84 22 = .ok (.iload_n 2, 1) := by decide +kernel
theorem dJx4a65c_grow_92f84_23 : decode cJx4a65c_grow_92f84 23 = .ok (.isub, 1) := by decide +kernel
theorem dJx4a65c_grow_92f84_24 : decode cJx4a65c_grow_92f84 24 = .ok (.iload_n 2, 1) := by decide +kernel
theorem dJx4a65c_grow_92f84_25 : decode cJx4a65c_grow_92f84 25 = .ok (.iconst 1, 1) := by decide +kernel
theorem dJx4a65c_grow_92f84_26 : decode cJx4a65c_grow_92f84 26 = .ok (.ishr, 1) := by decide +kernel
theorem dJx4a65c_grow_92f84_27 : decode cJx4a65c_grow_92f84 27 = .ok (.invokestatic 73, 3) := by decide +kernel
theorem dJx4a65c_grow_92f84_30 : decode cJx4a65c_grow_92f84 30 = .ok (.istore_n 3, 1) := by decide +kernel
theorem dJx4a65c_grow_92f84_31 : decode cJx4a65c_grow_92f84 31 = .ok (.aload_n 0, 1) := by decide +kernel
theorem dJx4a65c_grow_92f84_32 : decode cJx4a65c_grow_92f84 32 = .ok (.aload_n 0, 1) := by decide +kernel
theorem dJx4a65c_grow_92f84_33 : decode cJx4a65c_grow_92f84 33 = .ok (.getfield 9, 3) := by decide +kernel
theorem dJx4a65c_grow_92f84_36 : decode cJx4a65c_grow_92f84 36 = .ok (.iload_n 3, 1) := by decide +kernel
theorem dJx4a65c_grow_92f84_37 : decode cJx4a65c_grow_92f84 37 = .ok (.invokestatic 66, 3) := by decide +kernel
theorem dJx4a65c_grow_92f84_40 : decode cJx4a65c_grow_92f84 40 = .ok (.dup_x1, 1) := by decide +kernel
theorem dJx4a65c_grow_92f84_41 : decode cJx4a65c_grow_92f84 41 = .ok (.putfield 9, 3) := by decide +kernel
theorem dJx4a65c_grow_92f84_44 : decode cJx4a65c_grow_92f84 44 = .ok (.areturn, 1) := by decide +kernel
theorem dJx4a65c_grow_92f84_45 : decode cJx4a65c_grow_92f84 45 = .ok (.aload_n 0, 1) := by decide +kernel
theorem dJx4a65c_grow_92f84_46 : decode cJx4a65c_grow_92f84 46 = .ok (.bipush 10, 2) := by decide +kernel
theorem dJx4a65c_grow_92f84_48 : decode cJx4a65c_grow_92f84 48 = .ok (.iload_n 1, 1) := by decide +kernel
theorem dJx4a65c_grow_92f84_49 : decode cJx4a65c_grow_92f84 49 = .ok (.invokestatic 79, 3) := by decide +kernel
theorem dJx4a65c_grow_92f84_52 : decode cJx4a65c_grow_92f84 52 = .ok (.anewarray 7, 3) := by decide +kernel
theorem dJx4a65c_grow_92f84_55 : decode cJx4a65c_grow_92f84 55 = .ok (.dup_x1, 1) := by decide +kernel
theorem dJx4a65c_grow_92f84_56 : decode cJx4a65c_grow_92f84 56 = .ok (.putfield 9, 3) := by decide +kernel
theorem dJx4a65c_grow_92f84_59 : decode cJx4a65c_grow_92f84 59 = .ok (.areturn, 1) := by decide +kernel
theorem dJx4a65c_grow_d5877_0 : decode cJx4a65c_grow_d5877 0 = .ok (.aload_n 0, 1) := by decide +kernel
theorem dJx4a65c_grow_d5877_1 : decode cJx4a65c_grow_d5877 1 = .ok (.aload_n 0, 1) := by decide +kernel
theorem dJx4a65c_grow_d5877_2 : decode cJx4a65c_grow_d5877 2 = .ok (.getfield 48, 3) := by decide +kernel
theorem dJx4a65c_grow_d5877_5 : decode cJx4a65c_grow_d5877 5 = .ok (.iconst 1, 1) := by decide +kernel
theorem dJx4a65c_grow_d5877_6 : decode cJx4a65c_grow_d5877 6 = .ok (.iadd, 1) := by decide +kernel
theorem dJx4a65c_grow_d5877_7 : decode cJx4a65c_grow_d5877 7 = .ok (.invokevirtual 69, 3) := by decide +kernel
theorem dJx4a65c_grow_d5877_10 : decode cJx4a65c_grow_d5877 10 = .ok (.areturn, 1) := by decide +kernel
theorem dJx4a65c_size_8abf5_0 : decode cJx4a65c_size_8abf5 0 = .ok (.aload_n 0, 1) := by decide +kernel
theorem dJx4a65c_size_8abf5_1 : decode cJx4a65c_size_8abf5 1 = .ok (.getfield 48, 3) := by decide +kernel
theorem dJx4a65c_size_8abf5_4 : decode cJx4a65c_size_8abf5 4 = .ok (.ireturn, 1) := by decide +kernel
theorem dJx4a65c_isEmpty_aae02_0 : decode cJx4a65c_isEmpty_aae02 0 = .ok (.aload_n 0, 1) := by decide +kernel
theorem dJx4a65c_isEmpty_aae02_1 : decode cJx4a65c_isEmpty_aae02 1 = .ok (.getfield 48, 3) := by decide +kernel
theorem dJx4a65c_isEmpty_aae02_4 : decode cJx4a65c_isEmpty_aae02 4 = .ok (.ifCond .ne 7, 3) := by decide +kernel
theorem dJx4a65c_isEmpty_aae02_7 : decode cJx4a65c_isEmpty_aae02 7 = .ok (.iconst 1, 1) := by decide +kernel
theorem dJx4a65c_isEmpty_aae02_8 : decode cJx4a65c_isEmpty_aae02 8 = .ok (.goto 4, 3) := by decide +kernel
theorem dJx4a65c_isEmpty_aae02_11 : decode cJx4a65c_isEmpty_aae02 11 = .ok (.iconst 0, 1) := by decide +kernel
theorem dJx4a65c_isEmpty_aae02_12 : decode cJx4a65c_isEmpty_aae02 12 = .ok (.ireturn, 1) := by decide +kernel
theorem dJx4a65c_elementData_915e3_0 : decode cJx4a65c_elementData_915e3 0 = .ok (.aload_n 0, 1) := by decide +kernel
theorem dJx4a65c_elementData_915e3_1 : decode cJx4a65c_elementData_915e3 1 = .ok (.getfield 9, 3) := by decide +kernel
theorem dJx4a65c_elementData_915e3_4 : decode cJx4a65c_elementData_915e3 4 = .ok (.iload_n 1, 1) := by decide +kernel
theorem dJx4a65c_elementData_915e3_5 : decode cJx4a65c_elementData_915e3 5 = .ok (.aaload, 1) := by decide +kernel
theorem dJx4a65c_elementData_915e3_6 : decode cJx4a65c_elementData_915e3 6 = .ok (.areturn, 1) := by decide +kernel
theorem dJx4a65c_get_915e3_0 : decode cJx4a65c_get_915e3 0 = .ok (.iload_n 1, 1) := by decide +kernel
theorem dJx4a65c_get_915e3_1 : decode cJx4a65c_get_915e3 1 = .ok (.aload_n 0, 1) := by decide +kernel
theorem dJx4a65c_get_915e3_2 : decode cJx4a65c_get_915e3 2 = .ok (.getfield 48, 3) := by decide +kernel
theorem dJx4a65c_get_915e3_5 : decode cJx4a65c_get_915e3 5 = .ok (.invokestatic 118, 3) := by decide +kernel
theorem dJx4a65c_get_915e3_8 : decode cJx4a65c_get_915e3 8 = .ok (.pop, 1) := by decide +kernel
theorem dJx4a65c_get_915e3_9 : decode cJx4a65c_get_915e3 9 = .ok (.aload_n 0, 1) := by decide +kernel
theorem dJx4a65c_get_915e3_10 : decode cJx4a65c_get_915e3 10 = .ok (.iload_n 1, 1) := by decide +kernel
theorem dJx4a65c_get_915e3_11 : decode cJx4a65c_get_915e3 11 = .ok (.invokevirtual 123, 3) := by decide +kernel
theorem dJx4a65c_get_915e3_14 : decode cJx4a65c_get_915e3 14 = .ok (.areturn, 1) := by decide +kernel
theorem dJx4a65c_add_72be8_0 : decode cJx4a65c_add_72be8 0 = .ok (.iload_n 3, 1) := by decide +kernel
theorem dJx4a65c_add_72be8_1 : decode cJx4a65c_add_72be8 1 = .ok (.aload_n 2, 1) := by decide +kernel
theorem dJx4a65c_add_72be8_2 : decode cJx4a65c_add_72be8 2 = .ok (.arraylength, 1) := by decide +kernel
theorem dJx4a65c_add_72be8_3 : decode cJx4a65c_add_72be8 3 = .ok (.if_icmp .ne 8, 3) := by decide +kernel
theorem dJx4a65c_add_72be8_6 : decode cJx4a65c_add_72be8 6 = .ok (.aload_n 0, 1) := by decide +kernel
theorem dJx4a65c_add_72be8_7 : decode cJx4a65c_add_72be8 7 = .ok (.invokevirtual 129, 3) := by decide +kernel
theorem dJx4a65c_add_72be8_10 : decode cJx4a65c_add_72be8 10 = .ok (.astore_n 2, 1) := by decide +kernel
theorem dJx4a65c_add_72be8_11 : decode cJx4a65c_add_72be8 11 = .ok (.aload_n 2, 1) := by decide +kernel
theorem dJx4a65c_add_72be8_12 : decode cJx4a65c_add_72be8 12 = .ok (.iload_n 3, 1) := by decide +kernel
theorem dJx4a65c_add_72be8_13 : decode cJx4a65c_add_72be8 13 = .ok (.aload_n 1, 1) := by decide +kernel
theorem dJx4a65c_add_72be8_14 : decode cJx4a65c_add_72be8 14 = .ok (.aastore, 1) := by decide +kernel
theorem dJx4a65c_add_72be8_15 : decode cJx4a65c_add_72be8 15 = .ok (.aload_n 0, 1) := by decide +kernel
theorem dJx4a65c_add_72be8_16 : decode cJx4a65c_add_72be8 16 = .ok (.iload_n 3, 1) := by decide +kernel
theorem dJx4a65c_add_72be8_17 : decode cJx4a65c_add_72be8 17 = .ok (.iconst 1, 1) := by decide +kernel
theorem dJx4a65c_add_72be8_18 : decode cJx4a65c_add_72be8 18 = .ok (.iadd, 1) := by decide +kernel
theorem dJx4a65c_add_72be8_19 : decode cJx4a65c_add_72be8 19 = .ok (.putfield 48, 3) := by decide +kernel
theorem dJx4a65c_add_72be8_22 : decode cJx4a65c_add_72be8 22 = .ok (.return_, 1) := by decide +kernel
theorem dJx4a65c_add_9ea2d_0 : decode cJx4a65c_add_9ea2d 0 = .ok (.aload_n 0, 1) := by decide +kernel
theorem dJx4a65c_add_9ea2d_1 : decode cJx4a65c_add_9ea2d 1 = .ok (.dup, 1) := by decide +kernel
theorem dJx4a65c_add_9ea2d_2 : decode cJx4a65c_add_9ea2d 2 = .ok (.getfield 63, 3) := by decide +kernel
theorem dJx4a65c_add_9ea2d_5 : decode cJx4a65c_add_9ea2d 5 = .ok (.iconst 1, 1) := by decide +kernel
theorem dJx4a65c_add_9ea2d_6 : decode cJx4a65c_add_9ea2d 6 = .ok (.iadd, 1) := by decide +kernel
theorem dJx4a65c_add_9ea2d_7 : decode cJx4a65c_add_9ea2d 7 = .ok (.putfield 63, 3) := by decide +kernel
theorem dJx4a65c_add_9ea2d_10 : decode cJx4a65c_add_9ea2d 10 = .ok (.aload_n 0, 1) := by decide +kernel
theorem dJx4a65c_add_9ea2d_11 : decode cJx4a65c_add_9ea2d 11 = .ok (.aload_n 1, 1) := by decide +kernel
theorem dJx4a65c_add_9ea2d_12 : decode cJx4a65c_add_9ea2d 12 = .ok (.aload_n 0, 1) := by decide +kernel
theorem dJx4a65c_add_9ea2d_13 : decode cJx4a65c_add_9ea2d 13 = .ok (.getfield 9, 3) := by decide +kernel
theorem dJx4a65c_add_9ea2d_16 : decode cJx4a65c_add_9ea2d 16 = .ok (.aload_n 0, 1) := by decide +kernel
theorem dJx4a65c_add_9ea2d_17 : decode cJx4a65c_add_9ea2d 17 = .ok (.getfield 48, 3) := by decide +kernel
theorem dJx4a65c_add_9ea2d_20 : decode cJx4a65c_add_9ea2d 20 = .ok (.invokevirtual 131, 3) := by decide +kernel
theorem dJx4a65c_add_9ea2d_23 : decode cJx4a65c_add_9ea2d 23 = .ok (.iconst 1, 1) := by decide +kernel
theorem dJx4a65c_add_9ea2d_24 : decode cJx4a65c_add_9ea2d 24 = .ok (.ireturn, 1) := by decide +kernel
theorem dJx4a65c_clear_da8c8_0 : decode cJx4a65c_clear_da8c8 0 = .ok (.aload_n 0, 1) := by decide +kernel
theorem dJx4a65c_clear_da8c8_1 : decode cJx4a65c_clear_da8c8 1 = .ok (.dup, 1) := by decide +kernel
theorem dJx4a65c_clear_da8c8_2 : decode cJx4a65c_clear_da8c8 2 = .ok (.getfield 63, 3) := by decide +kernel
theorem dJx4a65c_clear_da8c8_5 : decode cJx4a65c_clear_da8c8 5 = .ok (.iconst 1, 1) := by decide +kernel
