theorem dX0_init_0 : decode cX0_init 0 = .ok (.aload_n 0, 1) := by decide +kernel
theorem dX0_init_1 : decode cX0_init 1 = .ok (.invokespecial 3, 3) := by decide +kernel
theorem dX0_init_4 : decode cX0_init 4 = .ok (.aload_n 0, 1) := by decide +kernel
theorem dX0_init_5 : decode cX0_init 5 = .ok (.iconst 0, 1) := by decide +kernel
theorem dX0_init_6 : decode cX0_init 6 = .ok (.putfield 9, 3) := by decide +kernel
theorem dX0_init_9 : decode cX0_init 9 = .ok (.aload_n 0, 1) := by decide +kernel
theorem dX0_init_10 : decode cX0_init 10 = .ok (.bipush 96, 2) := by decide +kernel
theorem dX0_init_12 : decode cX0_init 12 = .ok (.newarray .int, 2) := by decide +kernel
theorem dX0_init_14 : decode cX0_init 14 = .ok (.putfield 15, 3) := by decide +kernel
theorem dX0_init_17 : decode cX0_init 17 = .ok (.return_, 1) := by decide +kernel
theorem dX0_add_0 : decode cX0_add 0 = .ok (.aload_n 0, 1) := by decide +kernel
theorem dX0_add_1 : decode cX0_add 1 = .ok (.getfield 15, 3) := by decide +kernel
theorem dX0_add_4 : decode cX0_add 4 = .ok (.aload_n 0, 1) := by decide +kernel
theorem dX0_add_5 : decode cX0_add 5 = .ok (.getfield 9, 3) := by decide +kernel
theorem dX0_add_8 : decode cX0_add 8 = .ok (.iload_n 1, 1) := by decide +kernel
theorem dX0_add_9 : decode cX0_add 9 = .ok (.invokestatic 19, 3) := by decide +kernel
theorem dX0_add_12 : decode cX0_add 12 = .ok (.aload_n 0, 1) := by decide +kernel
theorem dX0_add_13 : decode cX0_add 13 = .ok (.dup, 1) := by decide +kernel
theorem dX0_add_14 : decode cX0_add 14 = .ok (.getfield 9, 3) := by decide +kernel
theorem dX0_add_17 : decode cX0_add 17 = .ok (.iconst 1, 1) := by decide +kernel
theorem dX0_add_18 : decode cX0_add 18 = .ok (.iadd, 1) := by decide +kernel
theorem dX0_add_19 : decode cX0_add 19 = .ok (.putfield 9, 3) := by decide +kernel
theorem dX0_add_22 : decode cX0_add 22 = .ok (.aload_n 0, 1) := by decide +kernel
theorem dX0_add_23 : decode cX0_add 23 = .ok (.getfield 9, 3) := by decide +kernel
theorem dX0_add_26 : decode cX0_add 26 = .ok (.ireturn, 1) := by decide +kernel
theorem dX0_runOn_0 : decode cX0_runOn 0 = .ok (.aload_n 0, 1) := by decide +kernel
theorem dX0_runOn_1 : decode cX0_runOn 1 = .ok (.invokevirtual 23, 3) := by decide +kernel
theorem dX0_runOn_4 : decode cX0_runOn 4 = .ok (.istore_n 2, 1) := by decide +kernel
theorem dX0_runOn_5 : decode cX0_runOn 5 = .ok (.iload_n 2, 1) := by decide +kernel
theorem dX0_runOn_6 : decode cX0_runOn 6 = .ok (.iconst (-1), 1) := by decide +kernel
theorem dX0_runOn_7 : decode cX0_runOn 7 = .ok (.if_icmp .eq 9, 3) := by decide +kernel
theorem dX0_runOn_10 : decode cX0_runOn 10 = .ok (.sipush (-1000), 3) := by decide +kernel
theorem dX0_runOn_13 : decode cX0_runOn 13 = .ok (.iload_n 2, 1) := by decide +kernel
theorem dX0_runOn_14 : decode cX0_runOn 14 = .ok (.isub, 1) := by decide +kernel
theorem dX0_runOn_15 : decode cX0_runOn 15 = .ok (.ireturn, 1) := by decide +kernel
theorem dX0_runOn_16 : decode cX0_runOn 16 = .ok (.iconst 0, 1) := by decide +kernel
theorem dX0_runOn_17 : decode cX0_runOn 17 = .ok (.istore_n 3, 1) := by decide +kernel
theorem dX0_runOn_18 : decode cX0_runOn 18 = .ok (.iconst 0, 1) := by decide +kernel
theorem dX0_runOn_19 : decode cX0_runOn 19 = .ok (.istore 4, 2) := by decide +kernel
theorem dX0_runOn_21 : decode cX0_runOn 21 = .ok (.iconst 0, 1) := by decide +kernel
theorem dX0_runOn_22 : decode cX0_runOn 22 = .ok (.istore 5, 2) := by decide +kernel
theorem dX0_runOn_24 : decode cX0_runOn 24 = .ok (.iload 5, 2) := by decide +kernel
theorem dX0_runOn_26 : decode cX0_runOn 26 = .ok (.bipush 96, 2) := by decide +kernel
theorem dX0_runOn_28 : decode cX0_runOn 28 = .ok (.if_icmp .ge 57, 3) := by decide +kernel
theorem dX0_runOn_31 : decode cX0_runOn 31 = .ok (.iload 4, 2) := by decide +kernel
theorem dX0_runOn_33 : decode cX0_runOn 33 = .ok (.aload_n 0, 1) := by decide +kernel
theorem dX0_runOn_34 : decode cX0_runOn 34 = .ok (.getfield 9, 3) := by decide +kernel
theorem dX0_runOn_37 : decode cX0_runOn 37 = .ok (.if_icmp .ge 48, 3) := by decide +kernel
theorem dX0_runOn_40 : decode cX0_runOn 40 = .ok (.aload_n 0, 1) := by decide +kernel
theorem dX0_runOn_41 : decode cX0_runOn 41 = .ok (.aload_n 1, 1) := by decide +kernel
theorem dX0_runOn_42 : decode cX0_runOn 42 = .ok (.iload 4, 2) := by decide +kernel
theorem dX0_runOn_44 : decode cX0_runOn 44 = .ok (.invokevirtual 27, 3) := by decide +kernel
theorem dX0_runOn_47 : decode cX0_runOn 47 = .ok (.ifCond .ge 10, 3) := by decide +kernel
theorem dX0_runOn_50 : decode cX0_runOn 50 = .ok (.sipush (-2000), 3) := by decide +kernel
theorem dX0_runOn_53 : decode cX0_runOn 53 = .ok (.iload 4, 2) := by decide +kernel
theorem dX0_runOn_55 : decode cX0_runOn 55 = .ok (.isub, 1) := by decide +kernel
theorem dX0_runOn_56 : decode cX0_runOn 56 = .ok (.ireturn, 1) := by decide +kernel
theorem dX0_runOn_57 : decode cX0_runOn 57 = .ok (.iinc 3 1, 3) := by decide +kernel
theorem dX0_runOn_60 : decode cX0_runOn 60 = .ok (.iload 4, 2) := by decide +kernel
theorem dX0_runOn_62 : decode cX0_runOn 62 = .ok (.aload_n 0, 1) := by decide +kernel
theorem dX0_runOn_63 : decode cX0_runOn 63 = .ok (.getfield 15, 3) := by decide +kernel
theorem dX0_runOn_66 : decode cX0_runOn 66 = .ok (.iload 4, 2) := by decide +kernel
theorem dX0_runOn_68 : decode cX0_runOn 68 = .ok (.invokestatic 31, 3) := by decide +kernel
theorem dX0_runOn_71 : decode cX0_runOn 71 = .ok (.invokestatic 35, 3) := by decide +kernel
theorem dX0_runOn_74 : decode cX0_runOn 74 = .ok (.iconst 2, 1) := by decide +kernel
theorem dX0_runOn_75 : decode cX0_runOn 75 = .ok (.iadd, 1) := by decide +kernel
theorem dX0_runOn_76 : decode cX0_runOn 76 = .ok (.iadd, 1) := by decide +kernel
theorem dX0_runOn_77 : decode cX0_runOn 77 = .ok (.istore 4, 2) := by decide +kernel
theorem dX0_runOn_79 : decode cX0_runOn 79 = .ok (.iinc 5 1, 3) := by decide +kernel
theorem dX0_runOn_82 : decode cX0_runOn 82 = .ok (.goto (-58), 3) := by decide +kernel
theorem dX0_runOn_85 : decode cX0_runOn 85 = .ok (.iload_n 3, 1) := by decide +kernel
theorem dX0_runOn_86 : decode cX0_runOn 86 = .ok (.ireturn, 1) := by decide +kernel
theorem dX0_firstWrongLetter_0 : decode cX0_firstWrongLetter 0 = .ok (.iconst 1, 1) := by decide +kernel
theorem dX0_firstWrongLetter_1 : decode cX0_firstWrongLetter 1 = .ok (.istore_n 1, 1) := by decide +kernel
theorem dX0_firstWrongLetter_2 : decode cX0_firstWrongLetter 2 = .ok (.iconst 0, 1) := by decide +kernel
theorem dX0_firstWrongLetter_3 : decode cX0_firstWrongLetter 3 = .ok (.istore_n 2, 1) := by decide +kernel
theorem dX0_firstWrongLetter_4 : decode cX0_firstWrongLetter 4 = .ok (.iconst 0, 1) := by decide +kernel
theorem dX0_firstWrongLetter_5 : decode cX0_firstWrongLetter 5 = .ok (.istore_n 3, 1) := by decide +kernel
theorem dX0_firstWrongLetter_6 : decode cX0_firstWrongLetter 6 = .ok (.iload_n 3, 1) := by decide +kernel
theorem dX0_firstWrongLetter_7 : decode cX0_firstWrongLetter 7 = .ok (.aload_n 0, 1) := by decide +kernel
theorem dX0_firstWrongLetter_8 : decode cX0_firstWrongLetter 8 = .ok (.getfield 9, 3) := by decide +kernel
theorem dX0_firstWrongLetter_11 : decode cX0_firstWrongLetter 11 = .ok (.if_icmp .ge 77, 3) := by decide +kernel
theorem dX0_firstWrongLetter_14 : decode cX0_firstWrongLetter 14 = .ok (.aload_n 0, 1) := by decide +kernel
theorem dX0_firstWrongLetter_15 : decode cX0_firstWrongLetter 15 = .ok (.getfield 15, 3) := by decide +kernel
theorem dX0_firstWrongLetter_18 : decode cX0_firstWrongLetter 18 = .ok (.iload_n 3, 1) := by decide +kernel
theorem dX0_firstWrongLetter_19 : decode cX0_firstWrongLetter 19 = .ok (.invokestatic 31, 3) := by decide +kernel
theorem dX0_firstWrongLetter_22 : decode cX0_firstWrongLetter 22 = .ok (.istore 4, 2) := by decide +kernel
theorem dX0_firstWrongLetter_24 : decode cX0_firstWrongLetter 24 = .ok (.iload_n 1, 1) := by decide +kernel
theorem dX0_firstWrongLetter_25 : decode cX0_firstWrongLetter 25 = .ok (.ifCond .eq 20, 3) := by decide +kernel
theorem dX0_firstWrongLetter_28 : decode cX0_firstWrongLetter 28 = .ok (.iload 4, 2) := by decide +kernel
theorem dX0_firstWrongLetter_30 : decode cX0_firstWrongLetter 30 = .ok (.invokestatic 35, 3) := by decide +kernel
theorem dX0_firstWrongLetter_33 : decode cX0_firstWrongLetter 33 = .ok (.istore_n 2, 1) := by decide +kernel
theorem dX0_firstWrongLetter_34 : decode cX0_firstWrongLetter 34 = .ok (.iload_n 2, 1) := by decide +kernel
theorem dX0_firstWrongLetter_35 : decode cX0_firstWrongLetter 35 = .ok (.ifCond .ge 5, 3) := by decide +kernel
theorem dX0_firstWrongLetter_38 : decode cX0_firstWrongLetter 38 = .ok (.iload_n 3, 1) := by decide +kernel
theorem dX0_firstWrongLetter_39 : decode cX0_firstWrongLetter 39 = .ok (.ireturn, 1) := by decide +kernel
theorem dX0_firstWrongLetter_40 : decode cX0_firstWrongLetter 40 = .ok (.iconst 0, 1) := by decide +kernel
theorem dX0_firstWrongLetter_41 : decode cX0_firstWrongLetter 41 = .ok (.istore_n 1, 1) := by decide +kernel
theorem dX0_firstWrongLetter_42 : decode cX0_firstWrongLetter 42 = .ok (.goto 40, 3) := by decide +kernel
theorem dX0_firstWrongLetter_45 : decode cX0_firstWrongLetter 45 = .ok (.iload_n 2, 1) := by decide +kernel
theorem dX0_firstWrongLetter_46 : decode cX0_firstWrongLetter 46 = .ok (.ifCond .le 25, 3) := by decide +kernel
theorem dX0_firstWrongLetter_49 : decode cX0_firstWrongLetter 49 = .ok (.iload 4, 2) := by decide +kernel
theorem dX0_firstWrongLetter_51 : decode cX0_firstWrongLetter 51 = .ok (.bipush 48, 2) := by decide +kernel
theorem dX0_firstWrongLetter_53 : decode cX0_firstWrongLetter 53 = .ok (.if_icmp .lt 10, 3) := by decide +kernel
theorem dX0_firstWrongLetter_56 : decode cX0_firstWrongLetter 56 = .ok (.iload 4, 2) := by decide +kernel
theorem dX0_firstWrongLetter_58 : decode cX0_firstWrongLetter 58 = .ok (.bipush 57, 2) := by decide +kernel
theorem dX0_firstWrongLetter_60 : decode cX0_firstWrongLetter 60 = .ok (.if_icmp .le 5, 3) := by decide +kernel
theorem dX0_firstWrongLetter_63 : decode cX0_firstWrongLetter 63 = .ok (.iload_n 3, 1) := by decide +kernel
theorem dX0_firstWrongLetter_64 : decode cX0_firstWrongLetter 64 = .ok (.ireturn, 1) := by decide +kernel
theorem dX0_firstWrongLetter_65 : decode cX0_firstWrongLetter 65 = .ok (.iinc 2 (-1), 3) := by decide +kernel
theorem dX0_firstWrongLetter_68 : decode cX0_firstWrongLetter 68 = .ok (.goto 14, 3) := by decide +kernel
theorem dX0_firstWrongLetter_71 : decode cX0_firstWrongLetter 71 = .ok (.iload 4, 2) := by decide +kernel
theorem dX0_firstWrongLetter_73 : decode cX0_firstWrongLetter 73 = .ok (.bipush 59, 2) := by decide +kernel
theorem dX0_firstWrongLetter_75 : decode cX0_firstWrongLetter 75 = .ok (.if_icmp .eq 5, 3) := by decide +kernel
theorem dX0_firstWrongLetter_78 : decode cX0_firstWrongLetter 78 = .ok (.iload_n 3, 1) := by decide +kernel
theorem dX0_firstWrongLetter_79 : decode cX0_firstWrongLetter 79 = .ok (.ireturn, 1) := by decide +kernel
theorem dX0_firstWrongLetter_80 : decode cX0_firstWrongLetter 80 = .ok (.iconst 1, 1) := by decide +kernel
theorem dX0_firstWrongLetter_81 : decode cX0_firstWrongLetter 81 = .ok (.istore_n 1, 1) := by decide +kernel
theorem dX0_firstWrongLetter_82 : decode cX0_firstWrongLetter 82 = .ok (.iinc 3 1, 3) := by decide +kernel
theorem dX0_firstWrongLetter_85 : decode cX0_firstWrongLetter 85 = .ok (.goto (-79), 3) := by decide +kernel
theorem dX0_firstWrongLetter_88 : decode cX0_firstWrongLetter 88 = .ok (.aload_n 0, 1) := by decide +kernel
theorem dX0_firstWrongLetter_89 : decode cX0_firstWrongLetter 89 = .ok (.getfield 9, 3) := by decide +kernel
theorem dX0_firstWrongLetter_92 : decode cX0_firstWrongLetter 92 = .ok (.ifCond .le 11, 3) := by decide +kernel
theorem dX0_firstWrongLetter_95 : decode cX0_firstWrongLetter 95 = .ok (.iload_n 1, 1) := by decide +kernel
theorem dX0_firstWrongLetter_96 : decode cX0_firstWrongLetter 96 = .ok (.ifCond .eq 7, 3) := by decide +kernel
theorem dX0_firstWrongLetter_99 : decode cX0_firstWrongLetter 99 = .ok (.iconst (-1), 1) := by decide +kernel
theorem dX0_firstWrongLetter_100 : decode cX0_firstWrongLetter 100 = .ok (.goto 7, 3) := by decide +kernel
theorem dX0_firstWrongLetter_103 : decode cX0_firstWrongLetter 103 = .ok (.aload_n 0, 1) := by decide +kernel
theorem dX0_firstWrongLetter_104 : decode cX0_firstWrongLetter 104 = .ok (.getfield 9, 3) := by decide +kernel
theorem dX0_firstWrongLetter_107 : decode cX0_firstWrongLetter 107 = .ok (.ireturn, 1) := by decide +kernel
theorem dX0_digitsBehind_0 : decode cX0_digitsBehind 0 = .ok (.iload_n 0, 1) := by decide +kernel
theorem dX0_digitsBehind_1 : decode cX0_digitsBehind 1 = .ok (.tableswitch 103 100 119 #[101, 103, 103, 103, 97, 103, 103, 97, 99, 97, 103, 103, 103, 103, 103, 95, 97, 103, 103, 95], 95) := by decide +kernel
theorem dX0_digitsBehind_96 : decode cX0_digitsBehind 96 = .ok (.iconst 3, 1) := by decide +kernel
theorem dX0_digitsBehind_97 : decode cX0_digitsBehind 97 = .ok (.ireturn, 1) := by decide +kernel
theorem dX0_digitsBehind_98 : decode cX0_digitsBehind 98 = .ok (.iconst 2, 1) := by decide +kernel
theorem dX0_digitsBehind_99 : decode cX0_digitsBehind 99 = .ok (.ireturn, 1) := by decide +kernel
theorem dX0_digitsBehind_100 : decode cX0_digitsBehind 100 = .ok (.iconst 1, 1) := by decide +kernel
theorem dX0_digitsBehind_101 : decode cX0_digitsBehind 101 = .ok (.ireturn, 1) := by decide +kernel
theorem dX0_digitsBehind_102 : decode cX0_digitsBehind 102 = .ok (.iconst 0, 1) := by decide +kernel
theorem dX0_digitsBehind_103 : decode cX0_digitsBehind 103 = .ok (.ireturn, 1) := by decide +kernel
theorem dX0_digitsBehind_104 : decode cX0_digitsBehind 104 = .ok (.iconst (-1), 1) := by decide +kernel
theorem dX0_digitsBehind_105 : decode cX0_digitsBehind 105 = .ok (.ireturn, 1) := by decide +kernel
theorem dX0_runStatement_0 : decode cX0_runStatement 0 = .ok (.aload_n 0, 1) := by decide +kernel
theorem dX0_runStatement_1 : decode cX0_runStatement 1 = .ok (.getfield 15, 3) := by decide +kernel
theorem dX0_runStatement_4 : decode cX0_runStatement 4 = .ok (.iload_n 2, 1) := by decide +kernel
theorem dX0_runStatement_5 : decode cX0_runStatement 5 = .ok (.iconst 1, 1) := by decide +kernel
theorem dX0_runStatement_6 : decode cX0_runStatement 6 = .ok (.iadd, 1) := by decide +kernel
theorem dX0_runStatement_7 : decode cX0_runStatement 7 = .ok (.invokestatic 31, 3) := by decide +kernel
theorem dX0_runStatement_10 : decode cX0_runStatement 10 = .ok (.bipush 48, 2) := by decide +kernel
theorem dX0_runStatement_12 : decode cX0_runStatement 12 = .ok (.isub, 1) := by decide +kernel
theorem dX0_runStatement_13 : decode cX0_runStatement 13 = .ok (.istore_n 3, 1) := by decide +kernel
theorem dX0_runStatement_14 : decode cX0_runStatement 14 = .ok (.aload_n 0, 1) := by decide +kernel
theorem dX0_runStatement_15 : decode cX0_runStatement 15 = .ok (.getfield 15, 3) := by decide +kernel
theorem dX0_runStatement_18 : decode cX0_runStatement 18 = .ok (.iload_n 2, 1) := by decide +kernel
theorem dX0_runStatement_19 : decode cX0_runStatement 19 = .ok (.iconst 2, 1) := by decide +kernel
theorem dX0_runStatement_20 : decode cX0_runStatement 20 = .ok (.iadd, 1) := by decide +kernel
theorem dX0_runStatement_21 : decode cX0_runStatement 21 = .ok (.invokestatic 31, 3) := by decide +kernel
theorem dX0_runStatement_24 : decode cX0_runStatement 24 = .ok (.bipush 48, 2) := by decide +kernel
theorem dX0_runStatement_26 : decode cX0_runStatement 26 = .ok (.isub, 1) := by decide +kernel
theorem dX0_runStatement_27 : decode cX0_runStatement 27 = .ok (.istore 4, 2) := by decide +kernel
theorem dX0_runStatement_29 : decode cX0_runStatement 29 = .ok (.aload_n 0, 1) := by decide +kernel
theorem dX0_runStatement_30 : decode cX0_runStatement 30 = .ok (.getfield 15, 3) := by decide +kernel
theorem dX0_runStatement_33 : decode cX0_runStatement 33 = .ok (.iload_n 2, 1) := by decide +kernel
theorem dX0_runStatement_34 : decode cX0_runStatement 34 = .ok (.iconst 3, 1) := by decide +kernel
theorem dX0_runStatement_35 : decode cX0_runStatement 35 = .ok (.iadd, 1) := by decide +kernel
theorem dX0_runStatement_36 : decode cX0_runStatement 36 = .ok (.invokestatic 31, 3) := by decide +kernel
theorem dX0_runStatement_39 : decode cX0_runStatement 39 = .ok (.bipush 48, 2) := by decide +kernel
theorem dX0_runStatement_41 : decode cX0_runStatement 41 = .ok (.isub, 1) := by decide +kernel
theorem dX0_runStatement_42 : decode cX0_runStatement 42 = .ok (.istore 5, 2) := by decide +kernel
theorem dX0_runStatement_44 : decode cX0_runStatement 44 = .ok (.aload_n 0, 1) := by decide +kernel
theorem dX0_runStatement_45 : decode cX0_runStatement 45 = .ok (.getfield 15, 3) := by decide +kernel
theorem dX0_runStatement_48 : decode cX0_runStatement 48 = .ok (.iload_n 2, 1) := by decide +kernel
theorem dX0_runStatement_49 : decode cX0_runStatement 49 = .ok (.invokestatic 31, 3) := by decide +kernel
theorem dX0_runStatement_52 : decode cX0_runStatement 52 = .ok (.tableswitch 177 100 119 #[172, 177, 177, 177, 138, 177, 177, 130, 124, 159, 177, 177, 177, 177, 177, 96, 151, 177, 177, 106], 96) := by decide +kernel
theorem dX0_runStatement_148 : decode cX0_runStatement 148 = .ok (.aload_n 1, 1) := by decide +kernel
theorem dX0_runStatement_149 : decode cX0_runStatement 149 = .ok (.iload_n 3, 1) := by decide +kernel
theorem dX0_runStatement_150 : decode cX0_runStatement 150 = .ok (.iload 4, 2) := by decide +kernel
theorem dX0_runStatement_152 : decode cX0_runStatement 152 = .ok (.iload 5, 2) := by decide +kernel
theorem dX0_runStatement_154 : decode cX0_runStatement 154 = .ok (.invokevirtual 39, 3) := by decide +kernel
theorem dX0_runStatement_157 : decode cX0_runStatement 157 = .ok (.ireturn, 1) := by decide +kernel
theorem dX0_runStatement_158 : decode cX0_runStatement 158 = .ok (.aload_n 1, 1) := by decide +kernel
theorem dX0_runStatement_159 : decode cX0_runStatement 159 = .ok (.bipush 100, 2) := by decide +kernel
theorem dX0_runStatement_161 : decode cX0_runStatement 161 = .ok (.iload_n 3, 1) := by decide +kernel
theorem dX0_runStatement_162 : decode cX0_runStatement 162 = .ok (.imul, 1) := by decide +kernel
theorem dX0_runStatement_163 : decode cX0_runStatement 163 = .ok (.bipush 10, 2) := by decide +kernel
theorem dX0_runStatement_165 : decode cX0_runStatement 165 = .ok (.iload 4, 2) := by decide +kernel
theorem dX0_runStatement_167 : decode cX0_runStatement 167 = .ok (.imul, 1) := by decide +kernel
theorem dX0_runStatement_168 : decode cX0_runStatement 168 = .ok (.iadd, 1) := by decide +kernel
theorem dX0_runStatement_169 : decode cX0_runStatement 169 = .ok (.iload 5, 2) := by decide +kernel
theorem dX0_runStatement_171 : decode cX0_runStatement 171 = .ok (.iadd, 1) := by decide +kernel
theorem dX0_runStatement_172 : decode cX0_runStatement 172 = .ok (.invokevirtual 45, 3) := by decide +kernel
theorem dX0_runStatement_175 : decode cX0_runStatement 175 = .ok (.ireturn, 1) := by decide +kernel
theorem dX0_runStatement_176 : decode cX0_runStatement 176 = .ok (.aload_n 1, 1) := by decide +kernel
theorem dX0_runStatement_177 : decode cX0_runStatement 177 = .ok (.iload_n 3, 1) := by decide +kernel
theorem dX0_runStatement_178 : decode cX0_runStatement 178 = .ok (.invokevirtual 48, 3) := by decide +kernel
theorem dX0_runStatement_181 : decode cX0_runStatement 181 = .ok (.ireturn, 1) := by decide +kernel
theorem dX0_runStatement_182 : decode cX0_runStatement 182 = .ok (.aload_n 1, 1) := by decide +kernel
theorem dX0_runStatement_183 : decode cX0_runStatement 183 = .ok (.iload_n 3, 1) := by decide +kernel
theorem dX0_runStatement_184 : decode cX0_runStatement 184 = .ok (.iload 4, 2) := by decide +kernel
theorem dX0_runStatement_186 : decode cX0_runStatement 186 = .ok (.invokevirtual 51, 3) := by decide +kernel
theorem dX0_runStatement_189 : decode cX0_runStatement 189 = .ok (.ireturn, 1) := by decide +kernel
theorem dX0_runStatement_190 : decode cX0_runStatement 190 = .ok (.aload_n 1, 1) := by decide +kernel
theorem dX0_runStatement_191 : decode cX0_runStatement 191 = .ok (.iconst 0, 1) := by decide +kernel
theorem dX0_runStatement_192 : decode cX0_runStatement 192 = .ok (.bipush 10, 2) := by decide +kernel
theorem dX0_runStatement_194 : decode cX0_runStatement 194 = .ok (.iload_n 3, 1) := by decide +kernel
theorem dX0_runStatement_195 : decode cX0_runStatement 195 = .ok (.imul, 1) := by decide +kernel
theorem dX0_runStatement_196 : decode cX0_runStatement 196 = .ok (.iload 4, 2) := by decide +kernel
theorem dX0_runStatement_198 : decode cX0_runStatement 198 = .ok (.iadd, 1) := by decide +kernel
theorem dX0_runStatement_199 : decode cX0_runStatement 199 = .ok (.invokevirtual 55, 3) := by decide +kernel
theorem dX0_runStatement_202 : decode cX0_runStatement 202 = .ok (.ireturn, 1) := by decide +kernel
theorem dX0_runStatement_203 : decode cX0_runStatement 203 = .ok (.aload_n 1, 1) := by decide +kernel
theorem dX0_runStatement_204 : decode cX0_runStatement 204 = .ok (.iload_n 3, 1) := by decide +kernel
theorem dX0_runStatement_205 : decode cX0_runStatement 205 = .ok (.iload 4, 2) := by decide +kernel
theorem dX0_runStatement_207 : decode cX0_runStatement 207 = .ok (.invokevirtual 58, 3) := by decide +kernel
theorem dX0_runStatement_210 : decode cX0_runStatement 210 = .ok (.ireturn, 1) := by decide +kernel
theorem dX0_runStatement_211 : decode cX0_runStatement 211 = .ok (.aload_n 1, 1) := by decide +kernel
theorem dX0_runStatement_212 : decode cX0_runStatement 212 = .ok (.iconst 1, 1) := by decide +kernel
theorem dX0_runStatement_213 : decode cX0_runStatement 213 = .ok (.bipush 10, 2) := by decide +kernel
theorem dX0_runStatement_215 : decode cX0_runStatement 215 = .ok (.iload_n 3, 1) := by decide +kernel
theorem dX0_runStatement_216 : decode cX0_runStatement 216 = .ok (.imul, 1) := by decide +kernel
theorem dX0_runStatement_217 : decode cX0_runStatement 217 = .ok (.iload 4, 2) := by decide +kernel
theorem dX0_runStatement_219 : decode cX0_runStatement 219 = .ok (.iadd, 1) := by decide +kernel
theorem dX0_runStatement_220 : decode cX0_runStatement 220 = .ok (.invokevirtual 55, 3) := by decide +kernel
theorem dX0_runStatement_223 : decode cX0_runStatement 223 = .ok (.ireturn, 1) := by decide +kernel
theorem dX0_runStatement_224 : decode cX0_runStatement 224 = .ok (.aload_n 1, 1) := by decide +kernel
theorem dX0_runStatement_225 : decode cX0_runStatement 225 = .ok (.invokevirtual 61, 3) := by decide +kernel
theorem dX0_runStatement_228 : decode cX0_runStatement 228 = .ok (.ireturn, 1) := by decide +kernel
theorem dX0_runStatement_229 : decode cX0_runStatement 229 = .ok (.bipush (-2), 2) := by decide +kernel
theorem dX0_runStatement_231 : decode cX0_runStatement 231 = .ok (.ireturn, 1) := by decide +kernel
theorem dX1_init_0 : decode cX1_init 0 = .ok (.aload_n 0, 1) := by decide +kernel
theorem dX1_init_1 : decode cX1_init 1 = .ok (.invokespecial 3, 3) := by decide +kernel
theorem dX1_init_4 : decode cX1_init 4 = .ok (.aload_n 0, 1) := by decide +kernel
theorem dX1_init_5 : decode cX1_init 5 = .ok (.aload_n 1, 1) := by decide +kernel
theorem dX1_init_6 : decode cX1_init 6 = .ok (.putfield 9, 3) := by decide +kernel
theorem dX1_init_9 : decode cX1_init 9 = .ok (.aload_n 0, 1) := by decide +kernel
theorem dX1_init_10 : decode cX1_init 10 = .ok (.bipush 32, 2) := by decide +kernel
theorem dX1_init_12 : decode cX1_init 12 = .ok (.newarray .int, 2) := by decide +kernel
theorem dX1_init_14 : decode cX1_init 14 = .ok (.putfield 15, 3) := by decide +kernel
theorem dX1_init_17 : decode cX1_init 17 = .ok (.return_, 1) := by decide +kernel
theorem dX1_allKnown_0 : decode cX1_allKnown 0 = .ok (.iconst 0, 1) := by decide +kernel
theorem dX1_allKnown_1 : decode cX1_allKnown 1 = .ok (.istore_n 1, 1) := by decide +kernel
theorem dX1_allKnown_2 : decode cX1_allKnown 2 = .ok (.iconst 0, 1) := by decide +kernel
theorem dX1_allKnown_3 : decode cX1_allKnown 3 = .ok (.istore_n 2, 1) := by decide +kernel
theorem dX1_allKnown_4 : decode cX1_allKnown 4 = .ok (.iload_n 2, 1) := by decide +kernel
theorem dX1_allKnown_5 : decode cX1_allKnown 5 = .ok (.aload_n 0, 1) := by decide +kernel
theorem dX1_allKnown_6 : decode cX1_allKnown 6 = .ok (.getfield 9, 3) := by decide +kernel
theorem dX1_allKnown_9 : decode cX1_allKnown 9 = .ok (.getfield 19, 3) := by decide +kernel
theorem dX1_allKnown_12 : decode cX1_allKnown 12 = .ok (.if_icmp .ge 26, 3) := by decide +kernel
theorem dX1_allKnown_15 : decode cX1_allKnown 15 = .ok (.iload_n 1, 1) := by decide +kernel
theorem dX1_allKnown_16 : decode cX1_allKnown 16 = .ok (.aload_n 0, 1) := by decide +kernel
theorem dX1_allKnown_17 : decode cX1_allKnown 17 = .ok (.getfield 9, 3) := by decide +kernel
theorem dX1_allKnown_20 : decode cX1_allKnown 20 = .ok (.getfield 25, 3) := by decide +kernel
theorem dX1_allKnown_23 : decode cX1_allKnown 23 = .ok (.iload_n 2, 1) := by decide +kernel
theorem dX1_allKnown_24 : decode cX1_allKnown 24 = .ok (.invokestatic 28, 3) := by decide +kernel
theorem dX1_allKnown_27 : decode cX1_allKnown 27 = .ok (.invokestatic 32, 3) := by decide +kernel
theorem dX1_allKnown_30 : decode cX1_allKnown 30 = .ok (.iadd, 1) := by decide +kernel
theorem dX1_allKnown_31 : decode cX1_allKnown 31 = .ok (.istore_n 1, 1) := by decide +kernel
theorem dX1_allKnown_32 : decode cX1_allKnown 32 = .ok (.iinc 2 1, 3) := by decide +kernel
theorem dX1_allKnown_35 : decode cX1_allKnown 35 = .ok (.goto (-31), 3) := by decide +kernel
theorem dX1_allKnown_38 : decode cX1_allKnown 38 = .ok (.iload_n 1, 1) := by decide +kernel
theorem dX1_allKnown_39 : decode cX1_allKnown 39 = .ok (.ireturn, 1) := by decide +kernel
theorem dX1_queued_0 : decode cX1_queued 0 = .ok (.aload_n 0, 1) := by decide +kernel
theorem dX1_queued_1 : decode cX1_queued 1 = .ok (.iload_n 1, 1) := by decide +kernel
theorem dX1_queued_2 : decode cX1_queued 2 = .ok (.invokevirtual 38, 3) := by decide +kernel
theorem dX1_queued_5 : decode cX1_queued 5 = .ok (.iconst 1, 1) := by decide +kernel
theorem dX1_queued_6 : decode cX1_queued 6 = .ok (.aload_n 0, 1) := by decide +kernel
theorem dX1_queued_7 : decode cX1_queued 7 = .ok (.getfield 9, 3) := by decide +kernel
theorem dX1_queued_10 : decode cX1_queued 10 = .ok (.getfield 19, 3) := by decide +kernel
theorem dX1_queued_13 : decode cX1_queued 13 = .ok (.ishl, 1) := by decide +kernel
theorem dX1_queued_14 : decode cX1_queued 14 = .ok (.iconst 1, 1) := by decide +kernel
theorem dX1_queued_15 : decode cX1_queued 15 = .ok (.isub, 1) := by decide +kernel
theorem dX1_queued_16 : decode cX1_queued 16 = .ok (.istore_n 3, 1) := by decide +kernel
theorem dX1_queued_17 : decode cX1_queued 17 = .ok (.iload_n 2, 1) := by decide +kernel
theorem dX1_queued_18 : decode cX1_queued 18 = .ok (.ifCond .ge 12, 3) := by decide +kernel
theorem dX1_queued_21 : decode cX1_queued 21 = .ok (.aload_n 0, 1) := by decide +kernel
theorem dX1_queued_22 : decode cX1_queued 22 = .ok (.getfield 15, 3) := by decide +kernel
theorem dX1_queued_25 : decode cX1_queued 25 = .ok (.iload_n 3, 1) := by decide +kernel
theorem dX1_queued_26 : decode cX1_queued 26 = .ok (.invokestatic 28, 3) := by decide +kernel
theorem dX1_queued_29 : decode cX1_queued 29 = .ok (.ireturn, 1) := by decide +kernel
theorem dX1_queued_30 : decode cX1_queued 30 = .ok (.iconst 0, 1) := by decide +kernel
theorem dX1_queued_31 : decode cX1_queued 31 = .ok (.istore 4, 2) := by decide +kernel
theorem dX1_queued_33 : decode cX1_queued 33 = .ok (.iload 4, 2) := by decide +kernel
theorem dX1_queued_35 : decode cX1_queued 35 = .ok (.aload_n 0, 1) := by decide +kernel
theorem dX1_queued_36 : decode cX1_queued 36 = .ok (.getfield 9, 3) := by decide +kernel
theorem dX1_queued_39 : decode cX1_queued 39 = .ok (.getfield 19, 3) := by decide +kernel
theorem dX1_queued_42 : decode cX1_queued 42 = .ok (.if_icmp .ge 37, 3) := by decide +kernel
theorem dX1_queued_45 : decode cX1_queued 45 = .ok (.aload_n 0, 1) := by decide +kernel
theorem dX1_queued_46 : decode cX1_queued 46 = .ok (.iload_n 3, 1) := by decide +kernel
theorem dX1_queued_47 : decode cX1_queued 47 = .ok (.iload_n 1, 1) := by decide +kernel
theorem dX1_queued_48 : decode cX1_queued 48 = .ok (.iload 4, 2) := by decide +kernel
theorem dX1_queued_50 : decode cX1_queued 50 = .ok (.invokevirtual 42, 3) := by decide +kernel
theorem dX1_queued_53 : decode cX1_queued 53 = .ok (.istore 5, 2) := by decide +kernel
theorem dX1_queued_55 : decode cX1_queued 55 = .ok (.iload 4, 2) := by decide +kernel
theorem dX1_queued_57 : decode cX1_queued 57 = .ok (.iload_n 2, 1) := by decide +kernel
theorem dX1_queued_58 : decode cX1_queued 58 = .ok (.if_icmp .ne 6, 3) := by decide +kernel
theorem dX1_queued_61 : decode cX1_queued 61 = .ok (.iload 5, 2) := by decide +kernel
theorem dX1_queued_63 : decode cX1_queued 63 = .ok (.ireturn, 1) := by decide +kernel
theorem dX1_queued_64 : decode cX1_queued 64 = .ok (.iload_n 3, 1) := by decide +kernel
theorem dX1_queued_65 : decode cX1_queued 65 = .ok (.iconst 1, 1) := by decide +kernel
theorem dX1_queued_66 : decode cX1_queued 66 = .ok (.iload 5, 2) := by decide +kernel
theorem dX1_queued_68 : decode cX1_queued 68 = .ok (.ishl, 1) := by decide +kernel
theorem dX1_queued_69 : decode cX1_queued 69 = .ok (.iconst (-1), 1) := by decide +kernel
theorem dX1_queued_70 : decode cX1_queued 70 = .ok (.ixor, 1) := by decide +kernel
theorem dX1_queued_71 : decode cX1_queued 71 = .ok (.iand, 1) := by decide +kernel
theorem dX1_queued_72 : decode cX1_queued 72 = .ok (.istore_n 3, 1) := by decide +kernel
theorem dX1_queued_73 : decode cX1_queued 73 = .ok (.iinc 4 1, 3) := by decide +kernel
theorem dX1_queued_76 : decode cX1_queued 76 = .ok (.goto (-43), 3) := by decide +kernel
theorem dX1_queued_79 : decode cX1_queued 79 = .ok (.bipush (-9), 2) := by decide +kernel
theorem dX1_queued_81 : decode cX1_queued 81 = .ok (.ireturn, 1) := by decide +kernel
theorem dX1_findMostOfLast_0 : decode cX1_findMostOfLast 0 = .ok (.aload_n 0, 1) := by decide +kernel
theorem dX1_findMostOfLast_1 : decode cX1_findMostOfLast 1 = .ok (.getfield 15, 3) := by decide +kernel
theorem dX1_findMostOfLast_4 : decode cX1_findMostOfLast 4 = .ok (.iconst 0, 1) := by decide +kernel
theorem dX1_findMostOfLast_5 : decode cX1_findMostOfLast 5 = .ok (.iconst 0, 1) := by decide +kernel
theorem dX1_findMostOfLast_6 : decode cX1_findMostOfLast 6 = .ok (.invokestatic 46, 3) := by decide +kernel
theorem dX1_findMostOfLast_9 : decode cX1_findMostOfLast 9 = .ok (.iconst 1, 1) := by decide +kernel
theorem dX1_findMostOfLast_10 : decode cX1_findMostOfLast 10 = .ok (.istore_n 2, 1) := by decide +kernel
theorem dX1_findMostOfLast_11 : decode cX1_findMostOfLast 11 = .ok (.iload_n 2, 1) := by decide +kernel
theorem dX1_findMostOfLast_12 : decode cX1_findMostOfLast 12 = .ok (.iconst 1, 1) := by decide +kernel
theorem dX1_findMostOfLast_13 : decode cX1_findMostOfLast 13 = .ok (.aload_n 0, 1) := by decide +kernel
theorem dX1_findMostOfLast_14 : decode cX1_findMostOfLast 14 = .ok (.getfield 9, 3) := by decide +kernel
theorem dX1_findMostOfLast_17 : decode cX1_findMostOfLast 17 = .ok (.getfield 19, 3) := by decide +kernel
theorem dX1_findMostOfLast_20 : decode cX1_findMostOfLast 20 = .ok (.ishl, 1) := by decide +kernel
theorem dX1_findMostOfLast_21 : decode cX1_findMostOfLast 21 = .ok (.if_icmp .ge 81, 3) := by decide +kernel
theorem dX1_findMostOfLast_24 : decode cX1_findMostOfLast 24 = .ok (.aload_n 0, 1) := by decide +kernel
theorem dX1_findMostOfLast_25 : decode cX1_findMostOfLast 25 = .ok (.getfield 9, 3) := by decide +kernel
theorem dX1_findMostOfLast_28 : decode cX1_findMostOfLast 28 = .ok (.getfield 19, 3) := by decide +kernel
theorem dX1_findMostOfLast_31 : decode cX1_findMostOfLast 31 = .ok (.iload_n 2, 1) := by decide +kernel
theorem dX1_findMostOfLast_32 : decode cX1_findMostOfLast 32 = .ok (.invokestatic 32, 3) := by decide +kernel
theorem dX1_findMostOfLast_35 : decode cX1_findMostOfLast 35 = .ok (.isub, 1) := by decide +kernel
theorem dX1_findMostOfLast_36 : decode cX1_findMostOfLast 36 = .ok (.istore_n 3, 1) := by decide +kernel
theorem dX1_findMostOfLast_37 : decode cX1_findMostOfLast 37 = .ok (.iconst 0, 1) := by decide +kernel
theorem dX1_findMostOfLast_38 : decode cX1_findMostOfLast 38 = .ok (.istore 4, 2) := by decide +kernel
theorem dX1_findMostOfLast_40 : decode cX1_findMostOfLast 40 = .ok (.iconst 0, 1) := by decide +kernel
theorem dX1_findMostOfLast_41 : decode cX1_findMostOfLast 41 = .ok (.istore 5, 2) := by decide +kernel
theorem dX1_findMostOfLast_43 : decode cX1_findMostOfLast 43 = .ok (.iload 5, 2) := by decide +kernel
theorem dX1_findMostOfLast_45 : decode cX1_findMostOfLast 45 = .ok (.aload_n 0, 1) := by decide +kernel
theorem dX1_findMostOfLast_46 : decode cX1_findMostOfLast 46 = .ok (.getfield 9, 3) := by decide +kernel
theorem dX1_findMostOfLast_49 : decode cX1_findMostOfLast 49 = .ok (.getfield 19, 3) := by decide +kernel
theorem dX1_findMostOfLast_52 : decode cX1_findMostOfLast 52 = .ok (.if_icmp .ge 34, 3) := by decide +kernel
theorem dX1_findMostOfLast_55 : decode cX1_findMostOfLast 55 = .ok (.iload_n 2, 1) := by decide +kernel
theorem dX1_findMostOfLast_56 : decode cX1_findMostOfLast 56 = .ok (.iload 5, 2) := by decide +kernel
theorem dX1_findMostOfLast_58 : decode cX1_findMostOfLast 58 = .ok (.invokestatic 50, 3) := by decide +kernel
theorem dX1_findMostOfLast_61 : decode cX1_findMostOfLast 61 = .ok (.ifCond .eq 19, 3) := by decide +kernel
theorem dX1_findMostOfLast_64 : decode cX1_findMostOfLast 64 = .ok (.iload 4, 2) := by decide +kernel
theorem dX1_findMostOfLast_66 : decode cX1_findMostOfLast 66 = .ok (.aload_n 0, 1) := by decide +kernel
theorem dX1_findMostOfLast_67 : decode cX1_findMostOfLast 67 = .ok (.iload_n 2, 1) := by decide +kernel
theorem dX1_findMostOfLast_68 : decode cX1_findMostOfLast 68 = .ok (.iload 5, 2) := by decide +kernel
theorem dX1_findMostOfLast_70 : decode cX1_findMostOfLast 70 = .ok (.iload_n 1, 1) := by decide +kernel
theorem dX1_findMostOfLast_71 : decode cX1_findMostOfLast 71 = .ok (.iload_n 3, 1) := by decide +kernel
theorem dX1_findMostOfLast_72 : decode cX1_findMostOfLast 72 = .ok (.invokevirtual 54, 3) := by decide +kernel
theorem dX1_findMostOfLast_75 : decode cX1_findMostOfLast 75 = .ok (.invokestatic 58, 3) := by decide +kernel
theorem dX1_findMostOfLast_78 : decode cX1_findMostOfLast 78 = .ok (.istore 4, 2) := by decide +kernel
theorem dX1_findMostOfLast_80 : decode cX1_findMostOfLast 80 = .ok (.iinc 5 1, 3) := by decide +kernel
theorem dX1_findMostOfLast_83 : decode cX1_findMostOfLast 83 = .ok (.goto (-40), 3) := by decide +kernel
theorem dX1_findMostOfLast_86 : decode cX1_findMostOfLast 86 = .ok (.aload_n 0, 1) := by decide +kernel
theorem dX1_findMostOfLast_87 : decode cX1_findMostOfLast 87 = .ok (.getfield 15, 3) := by decide +kernel
theorem dX1_findMostOfLast_90 : decode cX1_findMostOfLast 90 = .ok (.iload_n 2, 1) := by decide +kernel
theorem dX1_findMostOfLast_91 : decode cX1_findMostOfLast 91 = .ok (.iload 4, 2) := by decide +kernel
theorem dX1_findMostOfLast_93 : decode cX1_findMostOfLast 93 = .ok (.invokestatic 46, 3) := by decide +kernel
theorem dX1_findMostOfLast_96 : decode cX1_findMostOfLast 96 = .ok (.iinc 2 1, 3) := by decide +kernel
theorem dX1_findMostOfLast_99 : decode cX1_findMostOfLast 99 = .ok (.goto (-88), 3) := by decide +kernel
theorem dX1_findMostOfLast_102 : decode cX1_findMostOfLast 102 = .ok (.return_, 1) := by decide +kernel
theorem dX1_mostWithNext_0 : decode cX1_mostWithNext 0 = .ok (.aload_n 0, 1) := by decide +kernel
theorem dX1_mostWithNext_1 : decode cX1_mostWithNext 1 = .ok (.getfield 9, 3) := by decide +kernel
theorem dX1_mostWithNext_4 : decode cX1_mostWithNext 4 = .ok (.getfield 64, 3) := by decide +kernel
theorem dX1_mostWithNext_7 : decode cX1_mostWithNext 7 = .ok (.iload 4, 2) := by decide +kernel
theorem dX1_mostWithNext_9 : decode cX1_mostWithNext 9 = .ok (.iadd, 1) := by decide +kernel
theorem dX1_mostWithNext_10 : decode cX1_mostWithNext 10 = .ok (.bipush 24, 2) := by decide +kernel
theorem dX1_mostWithNext_12 : decode cX1_mostWithNext 12 = .ok (.irem, 1) := by decide +kernel
theorem dX1_mostWithNext_13 : decode cX1_mostWithNext 13 = .ok (.istore 5, 2) := by decide +kernel
theorem dX1_mostWithNext_15 : decode cX1_mostWithNext 15 = .ok (.aload_n 0, 1) := by decide +kernel
theorem dX1_mostWithNext_16 : decode cX1_mostWithNext 16 = .ok (.getfield 9, 3) := by decide +kernel
theorem dX1_mostWithNext_19 : decode cX1_mostWithNext 19 = .ok (.iload_n 2, 1) := by decide +kernel
theorem dX1_mostWithNext_20 : decode cX1_mostWithNext 20 = .ok (.iload_n 3, 1) := by decide +kernel
theorem dX1_mostWithNext_21 : decode cX1_mostWithNext 21 = .ok (.iload 5, 2) := by decide +kernel
theorem dX1_mostWithNext_23 : decode cX1_mostWithNext 23 = .ok (.invokevirtual 67, 3) := by decide +kernel
theorem dX1_mostWithNext_26 : decode cX1_mostWithNext 26 = .ok (.ifCond .eq 7, 3) := by decide +kernel
theorem dX1_mostWithNext_29 : decode cX1_mostWithNext 29 = .ok (.iconst 1, 1) := by decide +kernel
theorem dX1_mostWithNext_30 : decode cX1_mostWithNext 30 = .ok (.goto 4, 3) := by decide +kernel
theorem dX1_mostWithNext_33 : decode cX1_mostWithNext 33 = .ok (.iconst 0, 1) := by decide +kernel
theorem dX1_mostWithNext_34 : decode cX1_mostWithNext 34 = .ok (.istore 6, 2) := by decide +kernel
theorem dX1_mostWithNext_36 : decode cX1_mostWithNext 36 = .ok (.iload 6, 2) := by decide +kernel
theorem dX1_mostWithNext_38 : decode cX1_mostWithNext 38 = .ok (.aload_n 0, 1) := by decide +kernel
theorem dX1_mostWithNext_39 : decode cX1_mostWithNext 39 = .ok (.getfield 15, 3) := by decide +kernel
theorem dX1_mostWithNext_42 : decode cX1_mostWithNext 42 = .ok (.iload_n 1, 1) := by decide +kernel
theorem dX1_mostWithNext_43 : decode cX1_mostWithNext 43 = .ok (.iconst 1, 1) := by decide +kernel
theorem dX1_mostWithNext_44 : decode cX1_mostWithNext 44 = .ok (.iload_n 2, 1) := by decide +kernel
theorem dX1_mostWithNext_45 : decode cX1_mostWithNext 45 = .ok (.ishl, 1) := by decide +kernel
theorem dX1_mostWithNext_46 : decode cX1_mostWithNext 46 = .ok (.iconst (-1), 1) := by decide +kernel
theorem dX1_mostWithNext_47 : decode cX1_mostWithNext 47 = .ok (.ixor, 1) := by decide +kernel
theorem dX1_mostWithNext_48 : decode cX1_mostWithNext 48 = .ok (.iand, 1) := by decide +kernel
theorem dX1_mostWithNext_49 : decode cX1_mostWithNext 49 = .ok (.invokestatic 28, 3) := by decide +kernel
theorem dX1_mostWithNext_52 : decode cX1_mostWithNext 52 = .ok (.iadd, 1) := by decide +kernel
theorem dX1_mostWithNext_53 : decode cX1_mostWithNext 53 = .ok (.ireturn, 1) := by decide +kernel
theorem dX1_nextOf_0 : decode cX1_nextOf 0 = .ok (.iconst 0, 1) := by decide +kernel
theorem dX1_nextOf_1 : decode cX1_nextOf 1 = .ok (.istore 4, 2) := by decide +kernel
theorem dX1_nextOf_3 : decode cX1_nextOf 3 = .ok (.iload 4, 2) := by decide +kernel
theorem dX1_nextOf_5 : decode cX1_nextOf 5 = .ok (.aload_n 0, 1) := by decide +kernel
theorem dX1_nextOf_6 : decode cX1_nextOf 6 = .ok (.getfield 9, 3) := by decide +kernel
theorem dX1_nextOf_9 : decode cX1_nextOf 9 = .ok (.getfield 19, 3) := by decide +kernel
theorem dX1_nextOf_12 : decode cX1_nextOf 12 = .ok (.if_icmp .ge 41, 3) := by decide +kernel
theorem dX1_nextOf_15 : decode cX1_nextOf 15 = .ok (.iload_n 1, 1) := by decide +kernel
theorem dX1_nextOf_16 : decode cX1_nextOf 16 = .ok (.iload 4, 2) := by decide +kernel
theorem dX1_nextOf_18 : decode cX1_nextOf 18 = .ok (.invokestatic 50, 3) := by decide +kernel
theorem dX1_nextOf_21 : decode cX1_nextOf 21 = .ok (.ifCond .eq 26, 3) := by decide +kernel
theorem dX1_nextOf_24 : decode cX1_nextOf 24 = .ok (.aload_n 0, 1) := by decide +kernel
theorem dX1_nextOf_25 : decode cX1_nextOf 25 = .ok (.iload_n 1, 1) := by decide +kernel
theorem dX1_nextOf_26 : decode cX1_nextOf 26 = .ok (.iload 4, 2) := by decide +kernel
theorem dX1_nextOf_28 : decode cX1_nextOf 28 = .ok (.iload_n 2, 1) := by decide +kernel
theorem dX1_nextOf_29 : decode cX1_nextOf 29 = .ok (.iload_n 3, 1) := by decide +kernel
theorem dX1_nextOf_30 : decode cX1_nextOf 30 = .ok (.invokevirtual 54, 3) := by decide +kernel
theorem dX1_nextOf_33 : decode cX1_nextOf 33 = .ok (.aload_n 0, 1) := by decide +kernel
theorem dX1_nextOf_34 : decode cX1_nextOf 34 = .ok (.getfield 15, 3) := by decide +kernel
theorem dX1_nextOf_37 : decode cX1_nextOf 37 = .ok (.iload_n 1, 1) := by decide +kernel
theorem dX1_nextOf_38 : decode cX1_nextOf 38 = .ok (.invokestatic 28, 3) := by decide +kernel
theorem dX1_nextOf_41 : decode cX1_nextOf 41 = .ok (.if_icmp .ne 6, 3) := by decide +kernel
theorem dX1_nextOf_44 : decode cX1_nextOf 44 = .ok (.iload 4, 2) := by decide +kernel
theorem dX1_nextOf_46 : decode cX1_nextOf 46 = .ok (.ireturn, 1) := by decide +kernel
theorem dX1_nextOf_47 : decode cX1_nextOf 47 = .ok (.iinc 4 1, 3) := by decide +kernel
theorem dX1_nextOf_50 : decode cX1_nextOf 50 = .ok (.goto (-47), 3) := by decide +kernel
theorem dX1_nextOf_53 : decode cX1_nextOf 53 = .ok (.iconst 0, 1) := by decide +kernel
theorem dX1_nextOf_54 : decode cX1_nextOf 54 = .ok (.ireturn, 1) := by decide +kernel
theorem dX1_ranked_0 : decode cX1_ranked 0 = .ok (.iconst 0, 1) := by decide +kernel
theorem dX1_ranked_1 : decode cX1_ranked 1 = .ok (.istore_n 3, 1) := by decide +kernel
theorem dX1_ranked_2 : decode cX1_ranked 2 = .ok (.iload_n 3, 1) := by decide +kernel
theorem dX1_ranked_3 : decode cX1_ranked 3 = .ok (.aload_n 0, 1) := by decide +kernel
theorem dX1_ranked_4 : decode cX1_ranked 4 = .ok (.getfield 9, 3) := by decide +kernel
theorem dX1_ranked_7 : decode cX1_ranked 7 = .ok (.getfield 19, 3) := by decide +kernel
theorem dX1_ranked_10 : decode cX1_ranked 10 = .ok (.if_icmp .ge 21, 3) := by decide +kernel
theorem dX1_ranked_13 : decode cX1_ranked 13 = .ok (.aload_n 0, 1) := by decide +kernel
theorem dX1_ranked_14 : decode cX1_ranked 14 = .ok (.iload_n 3, 1) := by decide +kernel
theorem dX1_ranked_15 : decode cX1_ranked 15 = .ok (.iload_n 1, 1) := by decide +kernel
theorem dX1_ranked_16 : decode cX1_ranked 16 = .ok (.invokevirtual 71, 3) := by decide +kernel
theorem dX1_ranked_19 : decode cX1_ranked 19 = .ok (.iload_n 2, 1) := by decide +kernel
theorem dX1_ranked_20 : decode cX1_ranked 20 = .ok (.if_icmp .ne 5, 3) := by decide +kernel
theorem dX1_ranked_23 : decode cX1_ranked 23 = .ok (.iload_n 3, 1) := by decide +kernel
theorem dX1_ranked_24 : decode cX1_ranked 24 = .ok (.ireturn, 1) := by decide +kernel
theorem dX1_ranked_25 : decode cX1_ranked 25 = .ok (.iinc 3 1, 3) := by decide +kernel
theorem dX1_ranked_28 : decode cX1_ranked 28 = .ok (.goto (-26), 3) := by decide +kernel
theorem dX1_ranked_31 : decode cX1_ranked 31 = .ok (.bipush (-9), 2) := by decide +kernel
theorem dX1_ranked_33 : decode cX1_ranked 33 = .ok (.ireturn, 1) := by decide +kernel
theorem dX1_aheadOf_0 : decode cX1_aheadOf 0 = .ok (.aload_n 0, 1) := by decide +kernel
theorem dX1_aheadOf_1 : decode cX1_aheadOf 1 = .ok (.getfield 9, 3) := by decide +kernel
theorem dX1_aheadOf_4 : decode cX1_aheadOf 4 = .ok (.iload_n 1, 1) := by decide +kernel
theorem dX1_aheadOf_5 : decode cX1_aheadOf 5 = .ok (.iload_n 2, 1) := by decide +kernel
theorem dX1_aheadOf_6 : decode cX1_aheadOf 6 = .ok (.aload_n 0, 1) := by decide +kernel
theorem dX1_aheadOf_7 : decode cX1_aheadOf 7 = .ok (.getfield 9, 3) := by decide +kernel
theorem dX1_aheadOf_10 : decode cX1_aheadOf 10 = .ok (.getfield 64, 3) := by decide +kernel
theorem dX1_aheadOf_13 : decode cX1_aheadOf 13 = .ok (.invokevirtual 74, 3) := by decide +kernel
theorem dX1_aheadOf_16 : decode cX1_aheadOf 16 = .ok (.istore_n 3, 1) := by decide +kernel
theorem dX1_aheadOf_17 : decode cX1_aheadOf 17 = .ok (.iconst 0, 1) := by decide +kernel
theorem dX1_aheadOf_18 : decode cX1_aheadOf 18 = .ok (.istore 4, 2) := by decide +kernel
theorem dX1_aheadOf_20 : decode cX1_aheadOf 20 = .ok (.iconst 0, 1) := by decide +kernel
theorem dX1_aheadOf_21 : decode cX1_aheadOf 21 = .ok (.istore 5, 2) := by decide +kernel
theorem dX1_aheadOf_23 : decode cX1_aheadOf 23 = .ok (.iload 5, 2) := by decide +kernel
theorem dX1_aheadOf_25 : decode cX1_aheadOf 25 = .ok (.aload_n 0, 1) := by decide +kernel
theorem dX1_aheadOf_26 : decode cX1_aheadOf 26 = .ok (.getfield 9, 3) := by decide +kernel
theorem dX1_aheadOf_29 : decode cX1_aheadOf 29 = .ok (.getfield 19, 3) := by decide +kernel
theorem dX1_aheadOf_32 : decode cX1_aheadOf 32 = .ok (.if_icmp .ge 49, 3) := by decide +kernel
theorem dX1_aheadOf_35 : decode cX1_aheadOf 35 = .ok (.aload_n 0, 1) := by decide +kernel
theorem dX1_aheadOf_36 : decode cX1_aheadOf 36 = .ok (.getfield 9, 3) := by decide +kernel
theorem dX1_aheadOf_39 : decode cX1_aheadOf 39 = .ok (.iload 5, 2) := by decide +kernel
theorem dX1_aheadOf_41 : decode cX1_aheadOf 41 = .ok (.iload_n 2, 1) := by decide +kernel
theorem dX1_aheadOf_42 : decode cX1_aheadOf 42 = .ok (.aload_n 0, 1) := by decide +kernel
theorem dX1_aheadOf_43 : decode cX1_aheadOf 43 = .ok (.getfield 9, 3) := by decide +kernel
theorem dX1_aheadOf_46 : decode cX1_aheadOf 46 = .ok (.getfield 64, 3) := by decide +kernel
theorem dX1_aheadOf_49 : decode cX1_aheadOf 49 = .ok (.invokevirtual 74, 3) := by decide +kernel
theorem dX1_aheadOf_52 : decode cX1_aheadOf 52 = .ok (.istore 6, 2) := by decide +kernel
theorem dX1_aheadOf_54 : decode cX1_aheadOf 54 = .ok (.iload 6, 2) := by decide +kernel
theorem dX1_aheadOf_56 : decode cX1_aheadOf 56 = .ok (.iload_n 3, 1) := by decide +kernel
theorem dX1_aheadOf_57 : decode cX1_aheadOf 57 = .ok (.if_icmp .lt 15, 3) := by decide +kernel
theorem dX1_aheadOf_60 : decode cX1_aheadOf 60 = .ok (.iload 6, 2) := by decide +kernel
theorem dX1_aheadOf_62 : decode cX1_aheadOf 62 = .ok (.iload_n 3, 1) := by decide +kernel
theorem dX1_aheadOf_63 : decode cX1_aheadOf 63 = .ok (.if_icmp .ne 12, 3) := by decide +kernel
theorem dX1_aheadOf_66 : decode cX1_aheadOf 66 = .ok (.iload 5, 2) := by decide +kernel
theorem dX1_aheadOf_68 : decode cX1_aheadOf 68 = .ok (.iload_n 1, 1) := by decide +kernel
theorem dX1_aheadOf_69 : decode cX1_aheadOf 69 = .ok (.if_icmp .ge 6, 3) := by decide +kernel
theorem dX1_aheadOf_72 : decode cX1_aheadOf 72 = .ok (.iinc 4 1, 3) := by decide +kernel
theorem dX1_aheadOf_75 : decode cX1_aheadOf 75 = .ok (.iinc 5 1, 3) := by decide +kernel
theorem dX1_aheadOf_78 : decode cX1_aheadOf 78 = .ok (.goto (-55), 3) := by decide +kernel
theorem dX1_aheadOf_81 : decode cX1_aheadOf 81 = .ok (.iload 4, 2) := by decide +kernel
theorem dX1_aheadOf_83 : decode cX1_aheadOf 83 = .ok (.ireturn, 1) := by decide +kernel
theorem dX1_leastLimit_0 : decode cX1_leastLimit 0 = .ok (.iconst 0, 1) := by decide +kernel
theorem dX1_leastLimit_1 : decode cX1_leastLimit 1 = .ok (.istore_n 1, 1) := by decide +kernel
theorem dX1_leastLimit_2 : decode cX1_leastLimit 2 = .ok (.iconst 0, 1) := by decide +kernel
theorem dX1_leastLimit_3 : decode cX1_leastLimit 3 = .ok (.istore_n 2, 1) := by decide +kernel
theorem dX1_leastLimit_4 : decode cX1_leastLimit 4 = .ok (.iload_n 2, 1) := by decide +kernel
theorem dX1_leastLimit_5 : decode cX1_leastLimit 5 = .ok (.aload_n 0, 1) := by decide +kernel
theorem dX1_leastLimit_6 : decode cX1_leastLimit 6 = .ok (.getfield 9, 3) := by decide +kernel
theorem dX1_leastLimit_9 : decode cX1_leastLimit 9 = .ok (.getfield 19, 3) := by decide +kernel
theorem dX1_leastLimit_12 : decode cX1_leastLimit 12 = .ok (.if_icmp .ge 79, 3) := by decide +kernel
theorem dX1_leastLimit_15 : decode cX1_leastLimit 15 = .ok (.aload_n 0, 1) := by decide +kernel
theorem dX1_leastLimit_16 : decode cX1_leastLimit 16 = .ok (.getfield 9, 3) := by decide +kernel
theorem dX1_leastLimit_19 : decode cX1_leastLimit 19 = .ok (.getfield 77, 3) := by decide +kernel
theorem dX1_leastLimit_22 : decode cX1_leastLimit 22 = .ok (.iload_n 2, 1) := by decide +kernel
theorem dX1_leastLimit_23 : decode cX1_leastLimit 23 = .ok (.invokestatic 28, 3) := by decide +kernel
theorem dX1_leastLimit_26 : decode cX1_leastLimit 26 = .ok (.istore_n 3, 1) := by decide +kernel
theorem dX1_leastLimit_27 : decode cX1_leastLimit 27 = .ok (.aload_n 0, 1) := by decide +kernel
theorem dX1_leastLimit_28 : decode cX1_leastLimit 28 = .ok (.getfield 9, 3) := by decide +kernel
theorem dX1_leastLimit_31 : decode cX1_leastLimit 31 = .ok (.getfield 25, 3) := by decide +kernel
theorem dX1_leastLimit_34 : decode cX1_leastLimit 34 = .ok (.iload_n 2, 1) := by decide +kernel
theorem dX1_leastLimit_35 : decode cX1_leastLimit 35 = .ok (.invokestatic 28, 3) := by decide +kernel
theorem dX1_leastLimit_38 : decode cX1_leastLimit 38 = .ok (.istore 4, 2) := by decide +kernel
theorem dX1_leastLimit_40 : decode cX1_leastLimit 40 = .ok (.iconst 0, 1) := by decide +kernel
theorem dX1_leastLimit_41 : decode cX1_leastLimit 41 = .ok (.istore 5, 2) := by decide +kernel
theorem dX1_leastLimit_43 : decode cX1_leastLimit 43 = .ok (.iload 5, 2) := by decide +kernel
theorem dX1_leastLimit_45 : decode cX1_leastLimit 45 = .ok (.aload_n 0, 1) := by decide +kernel
theorem dX1_leastLimit_46 : decode cX1_leastLimit 46 = .ok (.getfield 9, 3) := by decide +kernel
theorem dX1_leastLimit_49 : decode cX1_leastLimit 49 = .ok (.getfield 80, 3) := by decide +kernel
theorem dX1_leastLimit_52 : decode cX1_leastLimit 52 = .ok (.if_icmp .ge 33, 3) := by decide +kernel
theorem dX1_leastLimit_55 : decode cX1_leastLimit 55 = .ok (.iload_n 1, 1) := by decide +kernel
theorem dX1_leastLimit_56 : decode cX1_leastLimit 56 = .ok (.aload_n 0, 1) := by decide +kernel
theorem dX1_leastLimit_57 : decode cX1_leastLimit 57 = .ok (.getfield 9, 3) := by decide +kernel
theorem dX1_leastLimit_60 : decode cX1_leastLimit 60 = .ok (.iload 5, 2) := by decide +kernel
theorem dX1_leastLimit_62 : decode cX1_leastLimit 62 = .ok (.iload_n 3, 1) := by decide +kernel
theorem dX1_leastLimit_63 : decode cX1_leastLimit 63 = .ok (.iload 4, 2) := by decide +kernel
theorem dX1_leastLimit_65 : decode cX1_leastLimit 65 = .ok (.aload_n 0, 1) := by decide +kernel
theorem dX1_leastLimit_66 : decode cX1_leastLimit 66 = .ok (.getfield 9, 3) := by decide +kernel
theorem dX1_leastLimit_69 : decode cX1_leastLimit 69 = .ok (.getfield 64, 3) := by decide +kernel
theorem dX1_leastLimit_72 : decode cX1_leastLimit 72 = .ok (.invokevirtual 83, 3) := by decide +kernel
theorem dX1_leastLimit_75 : decode cX1_leastLimit 75 = .ok (.invokestatic 58, 3) := by decide +kernel
theorem dX1_leastLimit_78 : decode cX1_leastLimit 78 = .ok (.istore_n 1, 1) := by decide +kernel
theorem dX1_leastLimit_79 : decode cX1_leastLimit 79 = .ok (.iinc 5 1, 3) := by decide +kernel
theorem dX1_leastLimit_82 : decode cX1_leastLimit 82 = .ok (.goto (-39), 3) := by decide +kernel
theorem dX1_leastLimit_85 : decode cX1_leastLimit 85 = .ok (.iinc 2 1, 3) := by decide +kernel
theorem dX1_leastLimit_88 : decode cX1_leastLimit 88 = .ok (.goto (-84), 3) := by decide +kernel
theorem dX1_leastLimit_91 : decode cX1_leastLimit 91 = .ok (.iload_n 1, 1) := by decide +kernel
theorem dX1_leastLimit_92 : decode cX1_leastLimit 92 = .ok (.bipush 99, 2) := by decide +kernel
theorem dX1_leastLimit_94 : decode cX1_leastLimit 94 = .ok (.if_icmp .le 8, 3) := by decide +kernel
theorem dX1_leastLimit_97 : decode cX1_leastLimit 97 = .ok (.bipush (-9), 2) := by decide +kernel
theorem dX1_leastLimit_99 : decode cX1_leastLimit 99 = .ok (.goto 4, 3) := by decide +kernel
theorem dX1_leastLimit_102 : decode cX1_leastLimit 102 = .ok (.iload_n 1, 1) := by decide +kernel
theorem dX1_leastLimit_103 : decode cX1_leastLimit 103 = .ok (.ireturn, 1) := by decide +kernel
theorem dX1_passersAt_0 : decode cX1_passersAt 0 = .ok (.iconst 0, 1) := by decide +kernel
theorem dX1_passersAt_1 : decode cX1_passersAt 1 = .ok (.istore_n 3, 1) := by decide +kernel
theorem dX1_passersAt_2 : decode cX1_passersAt 2 = .ok (.iconst 0, 1) := by decide +kernel
theorem dX1_passersAt_3 : decode cX1_passersAt 3 = .ok (.istore 4, 2) := by decide +kernel
theorem dX1_passersAt_5 : decode cX1_passersAt 5 = .ok (.iload 4, 2) := by decide +kernel
theorem dX1_passersAt_7 : decode cX1_passersAt 7 = .ok (.aload_n 0, 1) := by decide +kernel
theorem dX1_passersAt_8 : decode cX1_passersAt 8 = .ok (.getfield 9, 3) := by decide +kernel
theorem dX1_passersAt_11 : decode cX1_passersAt 11 = .ok (.getfield 19, 3) := by decide +kernel
theorem dX1_passersAt_14 : decode cX1_passersAt 14 = .ok (.if_icmp .ge 26, 3) := by decide +kernel
theorem dX1_passersAt_17 : decode cX1_passersAt 17 = .ok (.aload_n 0, 1) := by decide +kernel
theorem dX1_passersAt_18 : decode cX1_passersAt 18 = .ok (.getfield 9, 3) := by decide +kernel
theorem dX1_passersAt_21 : decode cX1_passersAt 21 = .ok (.iload 4, 2) := by decide +kernel
theorem dX1_passersAt_23 : decode cX1_passersAt 23 = .ok (.iload_n 1, 1) := by decide +kernel
theorem dX1_passersAt_24 : decode cX1_passersAt 24 = .ok (.iload_n 2, 1) := by decide +kernel
theorem dX1_passersAt_25 : decode cX1_passersAt 25 = .ok (.invokevirtual 67, 3) := by decide +kernel
theorem dX1_passersAt_28 : decode cX1_passersAt 28 = .ok (.ifCond .eq 6, 3) := by decide +kernel
theorem dX1_passersAt_31 : decode cX1_passersAt 31 = .ok (.iinc 3 1, 3) := by decide +kernel
theorem dX1_passersAt_34 : decode cX1_passersAt 34 = .ok (.iinc 4 1, 3) := by decide +kernel
theorem dX1_passersAt_37 : decode cX1_passersAt 37 = .ok (.goto (-32), 3) := by decide +kernel
theorem dX1_passersAt_40 : decode cX1_passersAt 40 = .ok (.iload_n 3, 1) := by decide +kernel
theorem dX1_passersAt_41 : decode cX1_passersAt 41 = .ok (.ireturn, 1) := by decide +kernel
theorem dX1_hourOfMost_0 : decode cX1_hourOfMost 0 = .ok (.iconst (-1), 1) := by decide +kernel
theorem dX1_hourOfMost_1 : decode cX1_hourOfMost 1 = .ok (.istore_n 2, 1) := by decide +kernel
theorem dX1_hourOfMost_2 : decode cX1_hourOfMost 2 = .ok (.iconst 0, 1) := by decide +kernel
theorem dX1_hourOfMost_3 : decode cX1_hourOfMost 3 = .ok (.istore_n 3, 1) := by decide +kernel
theorem dX1_hourOfMost_4 : decode cX1_hourOfMost 4 = .ok (.iconst 0, 1) := by decide +kernel
theorem dX1_hourOfMost_5 : decode cX1_hourOfMost 5 = .ok (.istore 4, 2) := by decide +kernel
theorem dX1_hourOfMost_7 : decode cX1_hourOfMost 7 = .ok (.iload 4, 2) := by decide +kernel
theorem dX1_hourOfMost_9 : decode cX1_hourOfMost 9 = .ok (.bipush 24, 2) := by decide +kernel
theorem dX1_hourOfMost_11 : decode cX1_hourOfMost 11 = .ok (.if_icmp .ge 30, 3) := by decide +kernel
theorem dX1_hourOfMost_14 : decode cX1_hourOfMost 14 = .ok (.aload_n 0, 1) := by decide +kernel
theorem dX1_hourOfMost_15 : decode cX1_hourOfMost 15 = .ok (.iload_n 1, 1) := by decide +kernel
theorem dX1_hourOfMost_16 : decode cX1_hourOfMost 16 = .ok (.iload 4, 2) := by decide +kernel
theorem dX1_hourOfMost_18 : decode cX1_hourOfMost 18 = .ok (.invokevirtual 86, 3) := by decide +kernel
theorem dX1_hourOfMost_21 : decode cX1_hourOfMost 21 = .ok (.istore 5, 2) := by decide +kernel
theorem dX1_hourOfMost_23 : decode cX1_hourOfMost 23 = .ok (.iload 5, 2) := by decide +kernel
theorem dX1_hourOfMost_25 : decode cX1_hourOfMost 25 = .ok (.iload_n 2, 1) := by decide +kernel
theorem dX1_hourOfMost_26 : decode cX1_hourOfMost 26 = .ok (.if_icmp .le 9, 3) := by decide +kernel
theorem dX1_hourOfMost_29 : decode cX1_hourOfMost 29 = .ok (.iload 5, 2) := by decide +kernel
theorem dX1_hourOfMost_31 : decode cX1_hourOfMost 31 = .ok (.istore_n 2, 1) := by decide +kernel
theorem dX1_hourOfMost_32 : decode cX1_hourOfMost 32 = .ok (.iload 4, 2) := by decide +kernel
theorem dX1_hourOfMost_34 : decode cX1_hourOfMost 34 = .ok (.istore_n 3, 1) := by decide +kernel
theorem dX1_hourOfMost_35 : decode cX1_hourOfMost 35 = .ok (.iinc 4 1, 3) := by decide +kernel
theorem dX1_hourOfMost_38 : decode cX1_hourOfMost 38 = .ok (.goto (-31), 3) := by decide +kernel
theorem dX1_hourOfMost_41 : decode cX1_hourOfMost 41 = .ok (.iload_n 3, 1) := by decide +kernel
theorem dX1_hourOfMost_42 : decode cX1_hourOfMost 42 = .ok (.ireturn, 1) := by decide +kernel
theorem dX1_twosAlike_0 : decode cX1_twosAlike 0 = .ok (.iconst 0, 1) := by decide +kernel
theorem dX1_twosAlike_1 : decode cX1_twosAlike 1 = .ok (.istore_n 1, 1) := by decide +kernel
theorem dX1_twosAlike_2 : decode cX1_twosAlike 2 = .ok (.iconst 0, 1) := by decide +kernel
theorem dX1_twosAlike_3 : decode cX1_twosAlike 3 = .ok (.istore_n 2, 1) := by decide +kernel
theorem dX1_twosAlike_4 : decode cX1_twosAlike 4 = .ok (.iload_n 2, 1) := by decide +kernel
theorem dX1_twosAlike_5 : decode cX1_twosAlike 5 = .ok (.aload_n 0, 1) := by decide +kernel
theorem dX1_twosAlike_6 : decode cX1_twosAlike 6 = .ok (.getfield 9, 3) := by decide +kernel
theorem dX1_twosAlike_9 : decode cX1_twosAlike 9 = .ok (.getfield 19, 3) := by decide +kernel
theorem dX1_twosAlike_12 : decode cX1_twosAlike 12 = .ok (.if_icmp .ge 51, 3) := by decide +kernel
theorem dX1_twosAlike_15 : decode cX1_twosAlike 15 = .ok (.aload_n 0, 1) := by decide +kernel
theorem dX1_twosAlike_16 : decode cX1_twosAlike 16 = .ok (.iload_n 2, 1) := by decide +kernel
theorem dX1_twosAlike_17 : decode cX1_twosAlike 17 = .ok (.invokevirtual 89, 3) := by decide +kernel
theorem dX1_twosAlike_20 : decode cX1_twosAlike 20 = .ok (.istore_n 3, 1) := by decide +kernel
theorem dX1_twosAlike_21 : decode cX1_twosAlike 21 = .ok (.iload_n 2, 1) := by decide +kernel
theorem dX1_twosAlike_22 : decode cX1_twosAlike 22 = .ok (.iconst 1, 1) := by decide +kernel
theorem dX1_twosAlike_23 : decode cX1_twosAlike 23 = .ok (.iadd, 1) := by decide +kernel
theorem dX1_twosAlike_24 : decode cX1_twosAlike 24 = .ok (.istore 4, 2) := by decide +kernel
theorem dX1_twosAlike_26 : decode cX1_twosAlike 26 = .ok (.iload 4, 2) := by decide +kernel
theorem dX1_twosAlike_28 : decode cX1_twosAlike 28 = .ok (.aload_n 0, 1) := by decide +kernel
theorem dX1_twosAlike_29 : decode cX1_twosAlike 29 = .ok (.getfield 9, 3) := by decide +kernel
theorem dX1_twosAlike_32 : decode cX1_twosAlike 32 = .ok (.getfield 19, 3) := by decide +kernel
theorem dX1_twosAlike_35 : decode cX1_twosAlike 35 = .ok (.if_icmp .ge 22, 3) := by decide +kernel
theorem dX1_twosAlike_38 : decode cX1_twosAlike 38 = .ok (.iload_n 3, 1) := by decide +kernel
theorem dX1_twosAlike_39 : decode cX1_twosAlike 39 = .ok (.aload_n 0, 1) := by decide +kernel
theorem dX1_twosAlike_40 : decode cX1_twosAlike 40 = .ok (.iload 4, 2) := by decide +kernel
theorem dX1_twosAlike_42 : decode cX1_twosAlike 42 = .ok (.invokevirtual 89, 3) := by decide +kernel
theorem dX1_twosAlike_45 : decode cX1_twosAlike 45 = .ok (.if_icmp .ne 6, 3) := by decide +kernel
theorem dX1_twosAlike_48 : decode cX1_twosAlike 48 = .ok (.iinc 1 1, 3) := by decide +kernel
theorem dX1_twosAlike_51 : decode cX1_twosAlike 51 = .ok (.iinc 4 1, 3) := by decide +kernel
theorem dX1_twosAlike_54 : decode cX1_twosAlike 54 = .ok (.goto (-28), 3) := by decide +kernel
theorem dX1_twosAlike_57 : decode cX1_twosAlike 57 = .ok (.iinc 2 1, 3) := by decide +kernel
theorem dX1_twosAlike_60 : decode cX1_twosAlike 60 = .ok (.goto (-56), 3) := by decide +kernel
theorem dX1_twosAlike_63 : decode cX1_twosAlike 63 = .ok (.iload_n 1, 1) := by decide +kernel
theorem dX1_twosAlike_64 : decode cX1_twosAlike 64 = .ok (.ireturn, 1) := by decide +kernel
theorem dX1_waysOf_0 : decode cX1_waysOf 0 = .ok (.aload_n 0, 1) := by decide +kernel
theorem dX1_waysOf_1 : decode cX1_waysOf 1 = .ok (.getfield 9, 3) := by decide +kernel
theorem dX1_waysOf_4 : decode cX1_waysOf 4 = .ok (.aload_n 0, 1) := by decide +kernel
theorem dX1_waysOf_5 : decode cX1_waysOf 5 = .ok (.getfield 9, 3) := by decide +kernel
theorem dX1_waysOf_8 : decode cX1_waysOf 8 = .ok (.getfield 77, 3) := by decide +kernel
theorem dX1_waysOf_11 : decode cX1_waysOf 11 = .ok (.iload_n 1, 1) := by decide +kernel
theorem dX1_waysOf_12 : decode cX1_waysOf 12 = .ok (.invokestatic 28, 3) := by decide +kernel
theorem dX1_waysOf_15 : decode cX1_waysOf 15 = .ok (.aload_n 0, 1) := by decide +kernel
theorem dX1_waysOf_16 : decode cX1_waysOf 16 = .ok (.getfield 9, 3) := by decide +kernel
theorem dX1_waysOf_19 : decode cX1_waysOf 19 = .ok (.getfield 25, 3) := by decide +kernel
theorem dX1_waysOf_22 : decode cX1_waysOf 22 = .ok (.iload_n 1, 1) := by decide +kernel
theorem dX1_waysOf_23 : decode cX1_waysOf 23 = .ok (.invokestatic 28, 3) := by decide +kernel
theorem dX1_waysOf_26 : decode cX1_waysOf 26 = .ok (.aload_n 0, 1) := by decide +kernel
theorem dX1_waysOf_27 : decode cX1_waysOf 27 = .ok (.getfield 9, 3) := by decide +kernel
theorem dX1_waysOf_30 : decode cX1_waysOf 30 = .ok (.getfield 64, 3) := by decide +kernel
theorem dX1_waysOf_33 : decode cX1_waysOf 33 = .ok (.invokevirtual 92, 3) := by decide +kernel
theorem dX1_waysOf_36 : decode cX1_waysOf 36 = .ok (.ireturn, 1) := by decide +kernel
theorem dX1_byLot_0 : decode cX1_byLot 0 = .ok (.iload_n 2, 1) := by decide +kernel
theorem dX1_byLot_1 : decode cX1_byLot 1 = .ok (.istore 4, 2) := by decide +kernel
theorem dX1_byLot_3 : decode cX1_byLot 3 = .ok (.iconst 0, 1) := by decide +kernel
theorem dX1_byLot_4 : decode cX1_byLot 4 = .ok (.istore 5, 2) := by decide +kernel
theorem dX1_byLot_6 : decode cX1_byLot 6 = .ok (.iconst 0, 1) := by decide +kernel
theorem dX1_byLot_7 : decode cX1_byLot 7 = .ok (.istore 6, 2) := by decide +kernel
theorem dX1_byLot_9 : decode cX1_byLot 9 = .ok (.iconst 0, 1) := by decide +kernel
theorem dX1_byLot_10 : decode cX1_byLot 10 = .ok (.istore 7, 2) := by decide +kernel
theorem dX1_byLot_12 : decode cX1_byLot 12 = .ok (.iload 7, 2) := by decide +kernel
theorem dX1_byLot_14 : decode cX1_byLot 14 = .ok (.iload_n 1, 1) := by decide +kernel
theorem dX1_byLot_15 : decode cX1_byLot 15 = .ok (.aload_n 0, 1) := by decide +kernel
theorem dX1_byLot_16 : decode cX1_byLot 16 = .ok (.getfield 9, 3) := by decide +kernel
theorem dX1_byLot_19 : decode cX1_byLot 19 = .ok (.getfield 19, 3) := by decide +kernel
theorem dX1_byLot_22 : decode cX1_byLot 22 = .ok (.imul, 1) := by decide +kernel
theorem dX1_byLot_23 : decode cX1_byLot 23 = .ok (.if_icmp .ge 114, 3) := by decide +kernel
theorem dX1_byLot_26 : decode cX1_byLot 26 = .ok (.aload_n 0, 1) := by decide +kernel
theorem dX1_byLot_27 : decode cX1_byLot 27 = .ok (.getfield 9, 3) := by decide +kernel
theorem dX1_byLot_30 : decode cX1_byLot 30 = .ok (.getfield 80, 3) := by decide +kernel
theorem dX1_byLot_33 : decode cX1_byLot 33 = .ok (.ifCond .le 104, 3) := by decide +kernel
theorem dX1_byLot_36 : decode cX1_byLot 36 = .ok (.iload 7, 2) := by decide +kernel
theorem dX1_byLot_38 : decode cX1_byLot 38 = .ok (.aload_n 0, 1) := by decide +kernel
theorem dX1_byLot_39 : decode cX1_byLot 39 = .ok (.getfield 9, 3) := by decide +kernel
theorem dX1_byLot_42 : decode cX1_byLot 42 = .ok (.getfield 19, 3) := by decide +kernel
theorem dX1_byLot_45 : decode cX1_byLot 45 = .ok (.invokestatic 95, 3) := by decide +kernel
theorem dX1_byLot_48 : decode cX1_byLot 48 = .ok (.istore 8, 2) := by decide +kernel
theorem dX1_byLot_50 : decode cX1_byLot 50 = .ok (.iload 4, 2) := by decide +kernel
theorem dX1_byLot_52 : decode cX1_byLot 52 = .ok (.invokestatic 98, 3) := by decide +kernel
theorem dX1_byLot_55 : decode cX1_byLot 55 = .ok (.istore 4, 2) := by decide +kernel
theorem dX1_byLot_57 : decode cX1_byLot 57 = .ok (.iload 4, 2) := by decide +kernel
theorem dX1_byLot_59 : decode cX1_byLot 59 = .ok (.bipush 24, 2) := by decide +kernel
theorem dX1_byLot_61 : decode cX1_byLot 61 = .ok (.invokestatic 101, 3) := by decide +kernel
theorem dX1_byLot_64 : decode cX1_byLot 64 = .ok (.istore 9, 2) := by decide +kernel
theorem dX1_byLot_66 : decode cX1_byLot 66 = .ok (.iload 4, 2) := by decide +kernel
theorem dX1_byLot_68 : decode cX1_byLot 68 = .ok (.invokestatic 98, 3) := by decide +kernel
theorem dX1_byLot_71 : decode cX1_byLot 71 = .ok (.istore 4, 2) := by decide +kernel
theorem dX1_byLot_73 : decode cX1_byLot 73 = .ok (.iload 4, 2) := by decide +kernel
theorem dX1_byLot_75 : decode cX1_byLot 75 = .ok (.aload_n 0, 1) := by decide +kernel
theorem dX1_byLot_76 : decode cX1_byLot 76 = .ok (.getfield 9, 3) := by decide +kernel
theorem dX1_byLot_79 : decode cX1_byLot 79 = .ok (.getfield 80, 3) := by decide +kernel
theorem dX1_byLot_82 : decode cX1_byLot 82 = .ok (.invokestatic 101, 3) := by decide +kernel
theorem dX1_byLot_85 : decode cX1_byLot 85 = .ok (.istore 10, 2) := by decide +kernel
theorem dX1_byLot_87 : decode cX1_byLot 87 = .ok (.iload 5, 2) := by decide +kernel
theorem dX1_byLot_89 : decode cX1_byLot 89 = .ok (.aload_n 0, 1) := by decide +kernel
theorem dX1_byLot_90 : decode cX1_byLot 90 = .ok (.getfield 9, 3) := by decide +kernel
theorem dX1_byLot_93 : decode cX1_byLot 93 = .ok (.iload 8, 2) := by decide +kernel
theorem dX1_byLot_95 : decode cX1_byLot 95 = .ok (.iload 10, 2) := by decide +kernel
theorem dX1_byLot_97 : decode cX1_byLot 97 = .ok (.iload 9, 2) := by decide +kernel
theorem dX1_byLot_99 : decode cX1_byLot 99 = .ok (.invokevirtual 67, 3) := by decide +kernel
theorem dX1_byLot_102 : decode cX1_byLot 102 = .ok (.ifCond .eq 7, 3) := by decide +kernel
theorem dX1_byLot_105 : decode cX1_byLot 105 = .ok (.iconst 1, 1) := by decide +kernel
theorem dX1_byLot_106 : decode cX1_byLot 106 = .ok (.goto 4, 3) := by decide +kernel
theorem dX1_byLot_109 : decode cX1_byLot 109 = .ok (.iconst 0, 1) := by decide +kernel
theorem dX1_byLot_110 : decode cX1_byLot 110 = .ok (.iadd, 1) := by decide +kernel
theorem dX1_byLot_111 : decode cX1_byLot 111 = .ok (.istore 5, 2) := by decide +kernel
theorem dX1_byLot_113 : decode cX1_byLot 113 = .ok (.iload 6, 2) := by decide +kernel
theorem dX1_byLot_115 : decode cX1_byLot 115 = .ok (.aload_n 0, 1) := by decide +kernel
theorem dX1_byLot_116 : decode cX1_byLot 116 = .ok (.getfield 9, 3) := by decide +kernel
theorem dX1_byLot_119 : decode cX1_byLot 119 = .ok (.iload 8, 2) := by decide +kernel
theorem dX1_byLot_121 : decode cX1_byLot 121 = .ok (.iload 10, 2) := by decide +kernel
theorem dX1_byLot_123 : decode cX1_byLot 123 = .ok (.iload 9, 2) := by decide +kernel
theorem dX1_byLot_125 : decode cX1_byLot 125 = .ok (.invokevirtual 74, 3) := by decide +kernel
theorem dX1_byLot_128 : decode cX1_byLot 128 = .ok (.iadd, 1) := by decide +kernel
theorem dX1_byLot_129 : decode cX1_byLot 129 = .ok (.istore 6, 2) := by decide +kernel
theorem dX1_byLot_131 : decode cX1_byLot 131 = .ok (.iinc 7 1, 3) := by decide +kernel
theorem dX1_byLot_134 : decode cX1_byLot 134 = .ok (.goto (-122), 3) := by decide +kernel
theorem dX1_byLot_137 : decode cX1_byLot 137 = .ok (.iload_n 3, 1) := by decide +kernel
theorem dX1_byLot_138 : decode cX1_byLot 138 = .ok (.ifCond .ne 8, 3) := by decide +kernel
theorem dX1_byLot_141 : decode cX1_byLot 141 = .ok (.iload 5, 2) := by decide +kernel
theorem dX1_byLot_143 : decode cX1_byLot 143 = .ok (.goto 5, 3) := by decide +kernel
theorem dX1_byLot_146 : decode cX1_byLot 146 = .ok (.iload 6, 2) := by decide +kernel
theorem dX1_byLot_148 : decode cX1_byLot 148 = .ok (.ireturn, 1) := by decide +kernel
theorem dX1_drawn_0 : decode cX1_drawn 0 = .ok (.iload_n 0, 1) := by decide +kernel
theorem dX1_drawn_1 : decode cX1_drawn 1 = .ok (.ldc 104, 2) := by decide +kernel
theorem dX1_drawn_3 : decode cX1_drawn 3 = .ok (.imul, 1) := by decide +kernel
theorem dX1_drawn_4 : decode cX1_drawn 4 = .ok (.sipush 12345, 3) := by decide +kernel
theorem dX1_drawn_7 : decode cX1_drawn 7 = .ok (.iadd, 1) := by decide +kernel
theorem dX1_drawn_8 : decode cX1_drawn 8 = .ok (.ireturn, 1) := by decide +kernel
theorem dX1_below_0 : decode cX1_below 0 = .ok (.iload_n 0, 1) := by decide +kernel
theorem dX1_below_1 : decode cX1_below 1 = .ok (.ldc 105, 2) := by decide +kernel
theorem dX1_below_3 : decode cX1_below 3 = .ok (.iand, 1) := by decide +kernel
theorem dX1_below_4 : decode cX1_below 4 = .ok (.bipush 16, 2) := by decide +kernel
theorem dX1_below_6 : decode cX1_below 6 = .ok (.ishr, 1) := by decide +kernel
theorem dX1_below_7 : decode cX1_below 7 = .ok (.iload_n 1, 1) := by decide +kernel
theorem dX1_below_8 : decode cX1_below 8 = .ok (.invokestatic 95, 3) := by decide +kernel
theorem dX1_below_11 : decode cX1_below 11 = .ok (.ireturn, 1) := by decide +kernel
theorem dX2_init_0 : decode cX2_init 0 = .ok (.aload_n 0, 1) := by decide +kernel
theorem dX2_init_1 : decode cX2_init 1 = .ok (.invokespecial 3, 3) := by decide +kernel
theorem dX2_init_4 : decode cX2_init 4 = .ok (.aload_n 0, 1) := by decide +kernel
theorem dX2_init_5 : decode cX2_init 5 = .ok (.aload_n 1, 1) := by decide +kernel
theorem dX2_init_6 : decode cX2_init 6 = .ok (.putfield 9, 3) := by decide +kernel
theorem dX2_init_9 : decode cX2_init 9 = .ok (.return_, 1) := by decide +kernel
theorem dX2_skillOf_0 : decode cX2_skillOf 0 = .ok (.aload_n 0, 1) := by decide +kernel
theorem dX2_skillOf_1 : decode cX2_skillOf 1 = .ok (.getfield 9, 3) := by decide +kernel
theorem dX2_skillOf_4 : decode cX2_skillOf 4 = .ok (.getfield 15, 3) := by decide +kernel
theorem dX2_skillOf_7 : decode cX2_skillOf 7 = .ok (.iload_n 1, 1) := by decide +kernel
theorem dX2_skillOf_8 : decode cX2_skillOf 8 = .ok (.invokestatic 21, 3) := by decide +kernel
theorem dX2_skillOf_11 : decode cX2_skillOf 11 = .ok (.ireturn, 1) := by decide +kernel
theorem dX2_knownOf_0 : decode cX2_knownOf 0 = .ok (.aload_n 0, 1) := by decide +kernel
theorem dX2_knownOf_1 : decode cX2_knownOf 1 = .ok (.getfield 9, 3) := by decide +kernel
theorem dX2_knownOf_4 : decode cX2_knownOf 4 = .ok (.getfield 25, 3) := by decide +kernel
theorem dX2_knownOf_7 : decode cX2_knownOf 7 = .ok (.iload_n 1, 1) := by decide +kernel
theorem dX2_knownOf_8 : decode cX2_knownOf 8 = .ok (.invokestatic 21, 3) := by decide +kernel
theorem dX2_knownOf_11 : decode cX2_knownOf 11 = .ok (.ireturn, 1) := by decide +kernel
theorem dX2_worstStreet_0 : decode cX2_worstStreet 0 = .ok (.aload_n 0, 1) := by decide +kernel
theorem dX2_worstStreet_1 : decode cX2_worstStreet 1 = .ok (.getfield 9, 3) := by decide +kernel
theorem dX2_worstStreet_4 : decode cX2_worstStreet 4 = .ok (.getfield 28, 3) := by decide +kernel
theorem dX2_worstStreet_7 : decode cX2_worstStreet 7 = .ok (.iload_n 2, 1) := by decide +kernel
theorem dX2_worstStreet_8 : decode cX2_worstStreet 8 = .ok (.invokestatic 21, 3) := by decide +kernel
theorem dX2_worstStreet_11 : decode cX2_worstStreet 11 = .ok (.istore 4, 2) := by decide +kernel
theorem dX2_worstStreet_13 : decode cX2_worstStreet 13 = .ok (.iconst (-1), 1) := by decide +kernel
theorem dX2_worstStreet_14 : decode cX2_worstStreet 14 = .ok (.istore 5, 2) := by decide +kernel
theorem dX2_worstStreet_16 : decode cX2_worstStreet 16 = .ok (.iconst 0, 1) := by decide +kernel
theorem dX2_worstStreet_17 : decode cX2_worstStreet 17 = .ok (.istore 6, 2) := by decide +kernel
theorem dX2_worstStreet_19 : decode cX2_worstStreet 19 = .ok (.iconst 0, 1) := by decide +kernel
theorem dX2_worstStreet_20 : decode cX2_worstStreet 20 = .ok (.istore 7, 2) := by decide +kernel
theorem dX2_worstStreet_22 : decode cX2_worstStreet 22 = .ok (.iload 7, 2) := by decide +kernel
theorem dX2_worstStreet_24 : decode cX2_worstStreet 24 = .ok (.aload_n 0, 1) := by decide +kernel
theorem dX2_worstStreet_25 : decode cX2_worstStreet 25 = .ok (.getfield 9, 3) := by decide +kernel
theorem dX2_worstStreet_28 : decode cX2_worstStreet 28 = .ok (.getfield 31, 3) := by decide +kernel
theorem dX2_worstStreet_31 : decode cX2_worstStreet 31 = .ok (.if_icmp .ge 47, 3) := by decide +kernel
theorem dX2_worstStreet_34 : decode cX2_worstStreet 34 = .ok (.iload 4, 2) := by decide +kernel
theorem dX2_worstStreet_36 : decode cX2_worstStreet 36 = .ok (.iload 7, 2) := by decide +kernel
theorem dX2_worstStreet_38 : decode cX2_worstStreet 38 = .ok (.invokestatic 35, 3) := by decide +kernel
theorem dX2_worstStreet_41 : decode cX2_worstStreet 41 = .ok (.ifCond .eq 31, 3) := by decide +kernel
theorem dX2_worstStreet_44 : decode cX2_worstStreet 44 = .ok (.aload_n 0, 1) := by decide +kernel
theorem dX2_worstStreet_45 : decode cX2_worstStreet 45 = .ok (.getfield 9, 3) := by decide +kernel
theorem dX2_worstStreet_48 : decode cX2_worstStreet 48 = .ok (.iload_n 1, 1) := by decide +kernel
theorem dX2_worstStreet_49 : decode cX2_worstStreet 49 = .ok (.iload 7, 2) := by decide +kernel
theorem dX2_worstStreet_51 : decode cX2_worstStreet 51 = .ok (.iload_n 3, 1) := by decide +kernel
theorem dX2_worstStreet_52 : decode cX2_worstStreet 52 = .ok (.invokevirtual 39, 3) := by decide +kernel
theorem dX2_worstStreet_55 : decode cX2_worstStreet 55 = .ok (.istore 8, 2) := by decide +kernel
theorem dX2_worstStreet_57 : decode cX2_worstStreet 57 = .ok (.iload 8, 2) := by decide +kernel
theorem dX2_worstStreet_59 : decode cX2_worstStreet 59 = .ok (.iload 5, 2) := by decide +kernel
theorem dX2_worstStreet_61 : decode cX2_worstStreet 61 = .ok (.if_icmp .le 11, 3) := by decide +kernel
theorem dX2_worstStreet_64 : decode cX2_worstStreet 64 = .ok (.iload 8, 2) := by decide +kernel
theorem dX2_worstStreet_66 : decode cX2_worstStreet 66 = .ok (.istore 5, 2) := by decide +kernel
theorem dX2_worstStreet_68 : decode cX2_worstStreet 68 = .ok (.iload 7, 2) := by decide +kernel
theorem dX2_worstStreet_70 : decode cX2_worstStreet 70 = .ok (.istore 6, 2) := by decide +kernel
theorem dX2_worstStreet_72 : decode cX2_worstStreet 72 = .ok (.iinc 7 1, 3) := by decide +kernel
theorem dX2_worstStreet_75 : decode cX2_worstStreet 75 = .ok (.goto (-53), 3) := by decide +kernel
theorem dX2_worstStreet_78 : decode cX2_worstStreet 78 = .ok (.iload 6, 2) := by decide +kernel
theorem dX2_worstStreet_80 : decode cX2_worstStreet 80 = .ok (.ireturn, 1) := by decide +kernel
theorem dX2_hourOfFewest_0 : decode cX2_hourOfFewest 0 = .ok (.sipush 1000, 3) := by decide +kernel
theorem dX2_hourOfFewest_3 : decode cX2_hourOfFewest 3 = .ok (.istore_n 3, 1) := by decide +kernel
theorem dX2_hourOfFewest_4 : decode cX2_hourOfFewest 4 = .ok (.iconst 0, 1) := by decide +kernel
theorem dX2_hourOfFewest_5 : decode cX2_hourOfFewest 5 = .ok (.istore 4, 2) := by decide +kernel
theorem dX2_hourOfFewest_7 : decode cX2_hourOfFewest 7 = .ok (.iconst 0, 1) := by decide +kernel
theorem dX2_hourOfFewest_8 : decode cX2_hourOfFewest 8 = .ok (.istore 5, 2) := by decide +kernel
theorem dX2_hourOfFewest_10 : decode cX2_hourOfFewest 10 = .ok (.iload 5, 2) := by decide +kernel
theorem dX2_hourOfFewest_12 : decode cX2_hourOfFewest 12 = .ok (.bipush 24, 2) := by decide +kernel
theorem dX2_hourOfFewest_14 : decode cX2_hourOfFewest 14 = .ok (.if_icmp .ge 35, 3) := by decide +kernel
theorem dX2_hourOfFewest_17 : decode cX2_hourOfFewest 17 = .ok (.aload_n 0, 1) := by decide +kernel
theorem dX2_hourOfFewest_18 : decode cX2_hourOfFewest 18 = .ok (.getfield 9, 3) := by decide +kernel
theorem dX2_hourOfFewest_21 : decode cX2_hourOfFewest 21 = .ok (.iload_n 1, 1) := by decide +kernel
theorem dX2_hourOfFewest_22 : decode cX2_hourOfFewest 22 = .ok (.iload_n 2, 1) := by decide +kernel
theorem dX2_hourOfFewest_23 : decode cX2_hourOfFewest 23 = .ok (.iload 5, 2) := by decide +kernel
theorem dX2_hourOfFewest_25 : decode cX2_hourOfFewest 25 = .ok (.invokevirtual 43, 3) := by decide +kernel
theorem dX2_hourOfFewest_28 : decode cX2_hourOfFewest 28 = .ok (.istore 6, 2) := by decide +kernel
theorem dX2_hourOfFewest_30 : decode cX2_hourOfFewest 30 = .ok (.iload 6, 2) := by decide +kernel
theorem dX2_hourOfFewest_32 : decode cX2_hourOfFewest 32 = .ok (.iload_n 3, 1) := by decide +kernel
theorem dX2_hourOfFewest_33 : decode cX2_hourOfFewest 33 = .ok (.if_icmp .ge 10, 3) := by decide +kernel
theorem dX2_hourOfFewest_36 : decode cX2_hourOfFewest 36 = .ok (.iload 6, 2) := by decide +kernel
theorem dX2_hourOfFewest_38 : decode cX2_hourOfFewest 38 = .ok (.istore_n 3, 1) := by decide +kernel
theorem dX2_hourOfFewest_39 : decode cX2_hourOfFewest 39 = .ok (.iload 5, 2) := by decide +kernel
theorem dX2_hourOfFewest_41 : decode cX2_hourOfFewest 41 = .ok (.istore 4, 2) := by decide +kernel
theorem dX2_hourOfFewest_43 : decode cX2_hourOfFewest 43 = .ok (.iinc 5 1, 3) := by decide +kernel
theorem dX2_hourOfFewest_46 : decode cX2_hourOfFewest 46 = .ok (.goto (-36), 3) := by decide +kernel
theorem dX2_hourOfFewest_49 : decode cX2_hourOfFewest 49 = .ok (.iload 4, 2) := by decide +kernel
theorem dX2_hourOfFewest_51 : decode cX2_hourOfFewest 51 = .ok (.ireturn, 1) := by decide +kernel
theorem dX2_hoursPassed_0 : decode cX2_hoursPassed 0 = .ok (.iconst 0, 1) := by decide +kernel
theorem dX2_hoursPassed_1 : decode cX2_hoursPassed 1 = .ok (.istore_n 3, 1) := by decide +kernel
theorem dX2_hoursPassed_2 : decode cX2_hoursPassed 2 = .ok (.iconst 0, 1) := by decide +kernel
theorem dX2_hoursPassed_3 : decode cX2_hoursPassed 3 = .ok (.istore 4, 2) := by decide +kernel
theorem dX2_hoursPassed_5 : decode cX2_hoursPassed 5 = .ok (.iload 4, 2) := by decide +kernel
theorem dX2_hoursPassed_7 : decode cX2_hoursPassed 7 = .ok (.bipush 24, 2) := by decide +kernel
theorem dX2_hoursPassed_9 : decode cX2_hoursPassed 9 = .ok (.if_icmp .ge 30, 3) := by decide +kernel
theorem dX2_hoursPassed_12 : decode cX2_hoursPassed 12 = .ok (.aload_n 0, 1) := by decide +kernel
theorem dX2_hoursPassed_13 : decode cX2_hoursPassed 13 = .ok (.getfield 9, 3) := by decide +kernel
theorem dX2_hoursPassed_16 : decode cX2_hoursPassed 16 = .ok (.iload_n 1, 1) := by decide +kernel
theorem dX2_hoursPassed_17 : decode cX2_hoursPassed 17 = .ok (.iload_n 2, 1) := by decide +kernel
theorem dX2_hoursPassed_18 : decode cX2_hoursPassed 18 = .ok (.iload 4, 2) := by decide +kernel
theorem dX2_hoursPassed_20 : decode cX2_hoursPassed 20 = .ok (.invokevirtual 46, 3) := by decide +kernel
theorem dX2_hoursPassed_23 : decode cX2_hoursPassed 23 = .ok (.ifCond .eq 10, 3) := by decide +kernel
theorem dX2_hoursPassed_26 : decode cX2_hoursPassed 26 = .ok (.iload_n 3, 1) := by decide +kernel
theorem dX2_hoursPassed_27 : decode cX2_hoursPassed 27 = .ok (.iconst 1, 1) := by decide +kernel
theorem dX2_hoursPassed_28 : decode cX2_hoursPassed 28 = .ok (.iload 4, 2) := by decide +kernel
theorem dX2_hoursPassed_30 : decode cX2_hoursPassed 30 = .ok (.ishl, 1) := by decide +kernel
theorem dX2_hoursPassed_31 : decode cX2_hoursPassed 31 = .ok (.ior, 1) := by decide +kernel
theorem dX2_hoursPassed_32 : decode cX2_hoursPassed 32 = .ok (.istore_n 3, 1) := by decide +kernel
theorem dX2_hoursPassed_33 : decode cX2_hoursPassed 33 = .ok (.iinc 4 1, 3) := by decide +kernel
theorem dX2_hoursPassed_36 : decode cX2_hoursPassed 36 = .ok (.goto (-31), 3) := by decide +kernel
theorem dX2_hoursPassed_39 : decode cX2_hoursPassed 39 = .ok (.iload_n 3, 1) := by decide +kernel
theorem dX2_hoursPassed_40 : decode cX2_hoursPassed 40 = .ok (.ireturn, 1) := by decide +kernel
theorem dX2_wayOfFewest_0 : decode cX2_wayOfFewest 0 = .ok (.sipush 1000, 3) := by decide +kernel
theorem dX2_wayOfFewest_3 : decode cX2_wayOfFewest 3 = .ok (.istore_n 3, 1) := by decide +kernel
theorem dX2_wayOfFewest_4 : decode cX2_wayOfFewest 4 = .ok (.bipush (-9), 2) := by decide +kernel
theorem dX2_wayOfFewest_6 : decode cX2_wayOfFewest 6 = .ok (.istore 4, 2) := by decide +kernel
theorem dX2_wayOfFewest_8 : decode cX2_wayOfFewest 8 = .ok (.iconst 0, 1) := by decide +kernel
theorem dX2_wayOfFewest_9 : decode cX2_wayOfFewest 9 = .ok (.istore 5, 2) := by decide +kernel
theorem dX2_wayOfFewest_11 : decode cX2_wayOfFewest 11 = .ok (.iload 5, 2) := by decide +kernel
theorem dX2_wayOfFewest_13 : decode cX2_wayOfFewest 13 = .ok (.aload_n 0, 1) := by decide +kernel
theorem dX2_wayOfFewest_14 : decode cX2_wayOfFewest 14 = .ok (.getfield 9, 3) := by decide +kernel
theorem dX2_wayOfFewest_17 : decode cX2_wayOfFewest 17 = .ok (.getfield 50, 3) := by decide +kernel
theorem dX2_wayOfFewest_20 : decode cX2_wayOfFewest 20 = .ok (.if_icmp .ge 35, 3) := by decide +kernel
theorem dX2_wayOfFewest_23 : decode cX2_wayOfFewest 23 = .ok (.aload_n 0, 1) := by decide +kernel
theorem dX2_wayOfFewest_24 : decode cX2_wayOfFewest 24 = .ok (.getfield 9, 3) := by decide +kernel
theorem dX2_wayOfFewest_27 : decode cX2_wayOfFewest 27 = .ok (.iload_n 1, 1) := by decide +kernel
theorem dX2_wayOfFewest_28 : decode cX2_wayOfFewest 28 = .ok (.iload 5, 2) := by decide +kernel
theorem dX2_wayOfFewest_30 : decode cX2_wayOfFewest 30 = .ok (.iload_n 2, 1) := by decide +kernel
theorem dX2_wayOfFewest_31 : decode cX2_wayOfFewest 31 = .ok (.invokevirtual 43, 3) := by decide +kernel
theorem dX2_wayOfFewest_34 : decode cX2_wayOfFewest 34 = .ok (.istore 6, 2) := by decide +kernel
theorem dX2_wayOfFewest_36 : decode cX2_wayOfFewest 36 = .ok (.iload 6, 2) := by decide +kernel
theorem dX2_wayOfFewest_38 : decode cX2_wayOfFewest 38 = .ok (.iload_n 3, 1) := by decide +kernel
theorem dX2_wayOfFewest_39 : decode cX2_wayOfFewest 39 = .ok (.if_icmp .ge 10, 3) := by decide +kernel
theorem dX2_wayOfFewest_42 : decode cX2_wayOfFewest 42 = .ok (.iload 6, 2) := by decide +kernel
theorem dX2_wayOfFewest_44 : decode cX2_wayOfFewest 44 = .ok (.istore_n 3, 1) := by decide +kernel
theorem dX2_wayOfFewest_45 : decode cX2_wayOfFewest 45 = .ok (.iload 5, 2) := by decide +kernel
theorem dX2_wayOfFewest_47 : decode cX2_wayOfFewest 47 = .ok (.istore 4, 2) := by decide +kernel
theorem dX2_wayOfFewest_49 : decode cX2_wayOfFewest 49 = .ok (.iinc 5 1, 3) := by decide +kernel
theorem dX2_wayOfFewest_52 : decode cX2_wayOfFewest 52 = .ok (.goto (-41), 3) := by decide +kernel
theorem dX2_wayOfFewest_55 : decode cX2_wayOfFewest 55 = .ok (.iload 4, 2) := by decide +kernel
theorem dX2_wayOfFewest_57 : decode cX2_wayOfFewest 57 = .ok (.ireturn, 1) := by decide +kernel
theorem dX2_toLearn_0 : decode cX2_toLearn 0 = .ok (.aload_n 0, 1) := by decide +kernel
theorem dX2_toLearn_1 : decode cX2_toLearn 1 = .ok (.iload_n 1, 1) := by decide +kernel
theorem dX2_toLearn_2 : decode cX2_toLearn 2 = .ok (.invokevirtual 53, 3) := by decide +kernel
theorem dX2_toLearn_5 : decode cX2_toLearn 5 = .ok (.istore 4, 2) := by decide +kernel
theorem dX2_toLearn_7 : decode cX2_toLearn 7 = .ok (.sipush 1000, 3) := by decide +kernel
theorem dX2_toLearn_10 : decode cX2_toLearn 10 = .ok (.istore 5, 2) := by decide +kernel
theorem dX2_toLearn_12 : decode cX2_toLearn 12 = .ok (.bipush (-9), 2) := by decide +kernel
theorem dX2_toLearn_14 : decode cX2_toLearn 14 = .ok (.istore 6, 2) := by decide +kernel
theorem dX2_toLearn_16 : decode cX2_toLearn 16 = .ok (.iconst 0, 1) := by decide +kernel
theorem dX2_toLearn_17 : decode cX2_toLearn 17 = .ok (.istore 7, 2) := by decide +kernel
theorem dX2_toLearn_19 : decode cX2_toLearn 19 = .ok (.iload 7, 2) := by decide +kernel
theorem dX2_toLearn_21 : decode cX2_toLearn 21 = .ok (.aload_n 0, 1) := by decide +kernel
theorem dX2_toLearn_22 : decode cX2_toLearn 22 = .ok (.getfield 9, 3) := by decide +kernel
theorem dX2_toLearn_25 : decode cX2_toLearn 25 = .ok (.invokevirtual 56, 3) := by decide +kernel
theorem dX2_toLearn_28 : decode cX2_toLearn 28 = .ok (.if_icmp .gt 54, 3) := by decide +kernel
theorem dX2_toLearn_31 : decode cX2_toLearn 31 = .ok (.iload 7, 2) := by decide +kernel
theorem dX2_toLearn_33 : decode cX2_toLearn 33 = .ok (.invokestatic 60, 3) := by decide +kernel
theorem dX2_toLearn_36 : decode cX2_toLearn 36 = .ok (.istore 8, 2) := by decide +kernel
theorem dX2_toLearn_38 : decode cX2_toLearn 38 = .ok (.iload 7, 2) := by decide +kernel
theorem dX2_toLearn_40 : decode cX2_toLearn 40 = .ok (.iload 4, 2) := by decide +kernel
theorem dX2_toLearn_42 : decode cX2_toLearn 42 = .ok (.iand, 1) := by decide +kernel
theorem dX2_toLearn_43 : decode cX2_toLearn 43 = .ok (.ifCond .ne 33, 3) := by decide +kernel
theorem dX2_toLearn_46 : decode cX2_toLearn 46 = .ok (.iload 8, 2) := by decide +kernel
theorem dX2_toLearn_48 : decode cX2_toLearn 48 = .ok (.iload 5, 2) := by decide +kernel
theorem dX2_toLearn_50 : decode cX2_toLearn 50 = .ok (.if_icmp .ge 26, 3) := by decide +kernel
theorem dX2_toLearn_53 : decode cX2_toLearn 53 = .ok (.aload_n 0, 1) := by decide +kernel
theorem dX2_toLearn_54 : decode cX2_toLearn 54 = .ok (.iload_n 1, 1) := by decide +kernel
theorem dX2_toLearn_55 : decode cX2_toLearn 55 = .ok (.iload_n 2, 1) := by decide +kernel
theorem dX2_toLearn_56 : decode cX2_toLearn 56 = .ok (.iload 4, 2) := by decide +kernel
theorem dX2_toLearn_58 : decode cX2_toLearn 58 = .ok (.iload 7, 2) := by decide +kernel
theorem dX2_toLearn_60 : decode cX2_toLearn 60 = .ok (.ior, 1) := by decide +kernel
theorem dX2_toLearn_61 : decode cX2_toLearn 61 = .ok (.iload_n 3, 1) := by decide +kernel
theorem dX2_toLearn_62 : decode cX2_toLearn 62 = .ok (.invokevirtual 65, 3) := by decide +kernel
theorem dX2_toLearn_65 : decode cX2_toLearn 65 = .ok (.ifCond .eq 11, 3) := by decide +kernel
theorem dX2_toLearn_68 : decode cX2_toLearn 68 = .ok (.iload 8, 2) := by decide +kernel
theorem dX2_toLearn_70 : decode cX2_toLearn 70 = .ok (.istore 5, 2) := by decide +kernel
theorem dX2_toLearn_72 : decode cX2_toLearn 72 = .ok (.iload 7, 2) := by decide +kernel
theorem dX2_toLearn_74 : decode cX2_toLearn 74 = .ok (.istore 6, 2) := by decide +kernel
theorem dX2_toLearn_76 : decode cX2_toLearn 76 = .ok (.iinc 7 1, 3) := by decide +kernel
theorem dX2_toLearn_79 : decode cX2_toLearn 79 = .ok (.goto (-60), 3) := by decide +kernel
theorem dX2_toLearn_82 : decode cX2_toLearn 82 = .ok (.iload 6, 2) := by decide +kernel
theorem dX2_toLearn_84 : decode cX2_toLearn 84 = .ok (.ireturn, 1) := by decide +kernel
theorem dX2_passesAll_0 : decode cX2_passesAll 0 = .ok (.iconst 0, 1) := by decide +kernel
theorem dX2_passesAll_1 : decode cX2_passesAll 1 = .ok (.istore 5, 2) := by decide +kernel
theorem dX2_passesAll_3 : decode cX2_passesAll 3 = .ok (.iload 5, 2) := by decide +kernel
theorem dX2_passesAll_5 : decode cX2_passesAll 5 = .ok (.aload_n 0, 1) := by decide +kernel
theorem dX2_passesAll_6 : decode cX2_passesAll 6 = .ok (.getfield 9, 3) := by decide +kernel
theorem dX2_passesAll_9 : decode cX2_passesAll 9 = .ok (.getfield 50, 3) := by decide +kernel
theorem dX2_passesAll_12 : decode cX2_passesAll 12 = .ok (.if_icmp .ge 47, 3) := by decide +kernel
theorem dX2_passesAll_15 : decode cX2_passesAll 15 = .ok (.iload_n 2, 1) := by decide +kernel
theorem dX2_passesAll_16 : decode cX2_passesAll 16 = .ok (.iload 5, 2) := by decide +kernel
theorem dX2_passesAll_18 : decode cX2_passesAll 18 = .ok (.invokestatic 35, 3) := by decide +kernel
theorem dX2_passesAll_21 : decode cX2_passesAll 21 = .ok (.ifCond .eq 32, 3) := by decide +kernel
theorem dX2_passesAll_24 : decode cX2_passesAll 24 = .ok (.aload_n 0, 1) := by decide +kernel
theorem dX2_passesAll_25 : decode cX2_passesAll 25 = .ok (.getfield 9, 3) := by decide +kernel
theorem dX2_passesAll_28 : decode cX2_passesAll 28 = .ok (.iload 5, 2) := by decide +kernel
theorem dX2_passesAll_30 : decode cX2_passesAll 30 = .ok (.aload_n 0, 1) := by decide +kernel
theorem dX2_passesAll_31 : decode cX2_passesAll 31 = .ok (.iload_n 1, 1) := by decide +kernel
theorem dX2_passesAll_32 : decode cX2_passesAll 32 = .ok (.invokevirtual 69, 3) := by decide +kernel
theorem dX2_passesAll_35 : decode cX2_passesAll 35 = .ok (.iload_n 3, 1) := by decide +kernel
theorem dX2_passesAll_36 : decode cX2_passesAll 36 = .ok (.iload 4, 2) := by decide +kernel
theorem dX2_passesAll_38 : decode cX2_passesAll 38 = .ok (.invokevirtual 71, 3) := by decide +kernel
theorem dX2_passesAll_41 : decode cX2_passesAll 41 = .ok (.aload_n 0, 1) := by decide +kernel
theorem dX2_passesAll_42 : decode cX2_passesAll 42 = .ok (.getfield 9, 3) := by decide +kernel
theorem dX2_passesAll_45 : decode cX2_passesAll 45 = .ok (.getfield 75, 3) := by decide +kernel
theorem dX2_passesAll_48 : decode cX2_passesAll 48 = .ok (.if_icmp .le 5, 3) := by decide +kernel
theorem dX2_passesAll_51 : decode cX2_passesAll 51 = .ok (.iconst 0, 1) := by decide +kernel
theorem dX2_passesAll_52 : decode cX2_passesAll 52 = .ok (.ireturn, 1) := by decide +kernel
theorem dX2_passesAll_53 : decode cX2_passesAll 53 = .ok (.iinc 5 1, 3) := by decide +kernel
theorem dX2_passesAll_56 : decode cX2_passesAll 56 = .ok (.goto (-53), 3) := by decide +kernel
theorem dX2_passesAll_59 : decode cX2_passesAll 59 = .ok (.iconst 1, 1) := by decide +kernel
theorem dX2_passesAll_60 : decode cX2_passesAll 60 = .ok (.ireturn, 1) := by decide +kernel
theorem dX2_lessonsToPass_0 : decode cX2_lessonsToPass 0 = .ok (.aload_n 0, 1) := by decide +kernel
theorem dX2_lessonsToPass_1 : decode cX2_lessonsToPass 1 = .ok (.iload_n 1, 1) := by decide +kernel
theorem dX2_lessonsToPass_2 : decode cX2_lessonsToPass 2 = .ok (.invokevirtual 53, 3) := by decide +kernel
theorem dX2_lessonsToPass_5 : decode cX2_lessonsToPass 5 = .ok (.istore 4, 2) := by decide +kernel
theorem dX2_lessonsToPass_7 : decode cX2_lessonsToPass 7 = .ok (.aload_n 0, 1) := by decide +kernel
theorem dX2_lessonsToPass_8 : decode cX2_lessonsToPass 8 = .ok (.getfield 9, 3) := by decide +kernel
theorem dX2_lessonsToPass_11 : decode cX2_lessonsToPass 11 = .ok (.getfield 28, 3) := by decide +kernel
theorem dX2_lessonsToPass_14 : decode cX2_lessonsToPass 14 = .ok (.iload_n 2, 1) := by decide +kernel
theorem dX2_lessonsToPass_15 : decode cX2_lessonsToPass 15 = .ok (.invokestatic 21, 3) := by decide +kernel
theorem dX2_lessonsToPass_18 : decode cX2_lessonsToPass 18 = .ok (.iload 4, 2) := by decide +kernel
theorem dX2_lessonsToPass_20 : decode cX2_lessonsToPass 20 = .ok (.iconst (-1), 1) := by decide +kernel
theorem dX2_lessonsToPass_21 : decode cX2_lessonsToPass 21 = .ok (.ixor, 1) := by decide +kernel
theorem dX2_lessonsToPass_22 : decode cX2_lessonsToPass 22 = .ok (.iand, 1) := by decide +kernel
theorem dX2_lessonsToPass_23 : decode cX2_lessonsToPass 23 = .ok (.istore 5, 2) := by decide +kernel
theorem dX2_lessonsToPass_25 : decode cX2_lessonsToPass 25 = .ok (.iconst 0, 1) := by decide +kernel
theorem dX2_lessonsToPass_26 : decode cX2_lessonsToPass 26 = .ok (.istore 6, 2) := by decide +kernel
theorem dX2_lessonsToPass_28 : decode cX2_lessonsToPass 28 = .ok (.aload_n 0, 1) := by decide +kernel
theorem dX2_lessonsToPass_29 : decode cX2_lessonsToPass 29 = .ok (.getfield 9, 3) := by decide +kernel
theorem dX2_lessonsToPass_32 : decode cX2_lessonsToPass 32 = .ok (.iload_n 2, 1) := by decide +kernel
theorem dX2_lessonsToPass_33 : decode cX2_lessonsToPass 33 = .ok (.aload_n 0, 1) := by decide +kernel
theorem dX2_lessonsToPass_34 : decode cX2_lessonsToPass 34 = .ok (.iload_n 1, 1) := by decide +kernel
theorem dX2_lessonsToPass_35 : decode cX2_lessonsToPass 35 = .ok (.invokevirtual 69, 3) := by decide +kernel
theorem dX2_lessonsToPass_38 : decode cX2_lessonsToPass 38 = .ok (.iload 4, 2) := by decide +kernel
theorem dX2_lessonsToPass_40 : decode cX2_lessonsToPass 40 = .ok (.iload_n 3, 1) := by decide +kernel
theorem dX2_lessonsToPass_41 : decode cX2_lessonsToPass 41 = .ok (.invokevirtual 71, 3) := by decide +kernel
theorem dX2_lessonsToPass_44 : decode cX2_lessonsToPass 44 = .ok (.aload_n 0, 1) := by decide +kernel
theorem dX2_lessonsToPass_45 : decode cX2_lessonsToPass 45 = .ok (.getfield 9, 3) := by decide +kernel
theorem dX2_lessonsToPass_48 : decode cX2_lessonsToPass 48 = .ok (.getfield 75, 3) := by decide +kernel
theorem dX2_lessonsToPass_51 : decode cX2_lessonsToPass 51 = .ok (.if_icmp .gt 6, 3) := by decide +kernel
theorem dX2_lessonsToPass_54 : decode cX2_lessonsToPass 54 = .ok (.iload 6, 2) := by decide +kernel
theorem dX2_lessonsToPass_56 : decode cX2_lessonsToPass 56 = .ok (.ireturn, 1) := by decide +kernel
theorem dX2_lessonsToPass_57 : decode cX2_lessonsToPass 57 = .ok (.iconst 0, 1) := by decide +kernel
theorem dX2_lessonsToPass_58 : decode cX2_lessonsToPass 58 = .ok (.istore 7, 2) := by decide +kernel
theorem dX2_lessonsToPass_60 : decode cX2_lessonsToPass 60 = .ok (.iload 7, 2) := by decide +kernel
theorem dX2_lessonsToPass_62 : decode cX2_lessonsToPass 62 = .ok (.aload_n 0, 1) := by decide +kernel
theorem dX2_lessonsToPass_63 : decode cX2_lessonsToPass 63 = .ok (.getfield 9, 3) := by decide +kernel
theorem dX2_lessonsToPass_66 : decode cX2_lessonsToPass 66 = .ok (.getfield 31, 3) := by decide +kernel
theorem dX2_lessonsToPass_69 : decode cX2_lessonsToPass 69 = .ok (.if_icmp .ge 60, 3) := by decide +kernel
theorem dX2_lessonsToPass_72 : decode cX2_lessonsToPass 72 = .ok (.iload 5, 2) := by decide +kernel
theorem dX2_lessonsToPass_74 : decode cX2_lessonsToPass 74 = .ok (.iload 7, 2) := by decide +kernel
theorem dX2_lessonsToPass_76 : decode cX2_lessonsToPass 76 = .ok (.invokestatic 35, 3) := by decide +kernel
theorem dX2_lessonsToPass_79 : decode cX2_lessonsToPass 79 = .ok (.ifCond .eq 44, 3) := by decide +kernel
theorem dX2_lessonsToPass_82 : decode cX2_lessonsToPass 82 = .ok (.iload 4, 2) := by decide +kernel
theorem dX2_lessonsToPass_84 : decode cX2_lessonsToPass 84 = .ok (.iconst 1, 1) := by decide +kernel
theorem dX2_lessonsToPass_85 : decode cX2_lessonsToPass 85 = .ok (.iload 7, 2) := by decide +kernel
theorem dX2_lessonsToPass_87 : decode cX2_lessonsToPass 87 = .ok (.ishl, 1) := by decide +kernel
theorem dX2_lessonsToPass_88 : decode cX2_lessonsToPass 88 = .ok (.ior, 1) := by decide +kernel
theorem dX2_lessonsToPass_89 : decode cX2_lessonsToPass 89 = .ok (.istore 4, 2) := by decide +kernel
theorem dX2_lessonsToPass_91 : decode cX2_lessonsToPass 91 = .ok (.iinc 6 1, 3) := by decide +kernel
theorem dX2_lessonsToPass_94 : decode cX2_lessonsToPass 94 = .ok (.aload_n 0, 1) := by decide +kernel
theorem dX2_lessonsToPass_95 : decode cX2_lessonsToPass 95 = .ok (.getfield 9, 3) := by decide +kernel
theorem dX2_lessonsToPass_98 : decode cX2_lessonsToPass 98 = .ok (.iload_n 2, 1) := by decide +kernel
theorem dX2_lessonsToPass_99 : decode cX2_lessonsToPass 99 = .ok (.aload_n 0, 1) := by decide +kernel
theorem dX2_lessonsToPass_100 : decode cX2_lessonsToPass 100 = .ok (.iload_n 1, 1) := by decide +kernel
theorem dX2_lessonsToPass_101 : decode cX2_lessonsToPass 101 = .ok (.invokevirtual 69, 3) := by decide +kernel
theorem dX2_lessonsToPass_104 : decode cX2_lessonsToPass 104 = .ok (.iload 4, 2) := by decide +kernel
theorem dX2_lessonsToPass_106 : decode cX2_lessonsToPass 106 = .ok (.iload_n 3, 1) := by decide +kernel
theorem dX2_lessonsToPass_107 : decode cX2_lessonsToPass 107 = .ok (.invokevirtual 71, 3) := by decide +kernel
theorem dX2_lessonsToPass_110 : decode cX2_lessonsToPass 110 = .ok (.aload_n 0, 1) := by decide +kernel
theorem dX2_lessonsToPass_111 : decode cX2_lessonsToPass 111 = .ok (.getfield 9, 3) := by decide +kernel
theorem dX2_lessonsToPass_114 : decode cX2_lessonsToPass 114 = .ok (.getfield 75, 3) := by decide +kernel
theorem dX2_lessonsToPass_117 : decode cX2_lessonsToPass 117 = .ok (.if_icmp .gt 6, 3) := by decide +kernel
theorem dX2_lessonsToPass_120 : decode cX2_lessonsToPass 120 = .ok (.iload 6, 2) := by decide +kernel
theorem dX2_lessonsToPass_122 : decode cX2_lessonsToPass 122 = .ok (.ireturn, 1) := by decide +kernel
theorem dX2_lessonsToPass_123 : decode cX2_lessonsToPass 123 = .ok (.iinc 7 1, 3) := by decide +kernel
theorem dX2_lessonsToPass_126 : decode cX2_lessonsToPass 126 = .ok (.goto (-66), 3) := by decide +kernel
theorem dX2_lessonsToPass_129 : decode cX2_lessonsToPass 129 = .ok (.bipush (-9), 2) := by decide +kernel
theorem dX2_lessonsToPass_131 : decode cX2_lessonsToPass 131 = .ok (.ireturn, 1) := by decide +kernel
theorem dX2_leastSkill_0 : decode cX2_leastSkill 0 = .ok (.iconst 0, 1) := by decide +kernel
theorem dX2_leastSkill_1 : decode cX2_leastSkill 1 = .ok (.istore 4, 2) := by decide +kernel
theorem dX2_leastSkill_3 : decode cX2_leastSkill 3 = .ok (.iload 4, 2) := by decide +kernel
theorem dX2_leastSkill_5 : decode cX2_leastSkill 5 = .ok (.bipush 9, 2) := by decide +kernel
theorem dX2_leastSkill_7 : decode cX2_leastSkill 7 = .ok (.if_icmp .gt 38, 3) := by decide +kernel
theorem dX2_leastSkill_10 : decode cX2_leastSkill 10 = .ok (.aload_n 0, 1) := by decide +kernel
theorem dX2_leastSkill_11 : decode cX2_leastSkill 11 = .ok (.getfield 9, 3) := by decide +kernel
theorem dX2_leastSkill_14 : decode cX2_leastSkill 14 = .ok (.iload_n 2, 1) := by decide +kernel
theorem dX2_leastSkill_15 : decode cX2_leastSkill 15 = .ok (.iload 4, 2) := by decide +kernel
theorem dX2_leastSkill_17 : decode cX2_leastSkill 17 = .ok (.aload_n 0, 1) := by decide +kernel
theorem dX2_leastSkill_18 : decode cX2_leastSkill 18 = .ok (.iload_n 1, 1) := by decide +kernel
theorem dX2_leastSkill_19 : decode cX2_leastSkill 19 = .ok (.invokevirtual 53, 3) := by decide +kernel
theorem dX2_leastSkill_22 : decode cX2_leastSkill 22 = .ok (.iload_n 3, 1) := by decide +kernel
theorem dX2_leastSkill_23 : decode cX2_leastSkill 23 = .ok (.invokevirtual 71, 3) := by decide +kernel
theorem dX2_leastSkill_26 : decode cX2_leastSkill 26 = .ok (.aload_n 0, 1) := by decide +kernel
theorem dX2_leastSkill_27 : decode cX2_leastSkill 27 = .ok (.getfield 9, 3) := by decide +kernel
theorem dX2_leastSkill_30 : decode cX2_leastSkill 30 = .ok (.getfield 75, 3) := by decide +kernel
theorem dX2_leastSkill_33 : decode cX2_leastSkill 33 = .ok (.if_icmp .gt 6, 3) := by decide +kernel
theorem dX2_leastSkill_36 : decode cX2_leastSkill 36 = .ok (.iload 4, 2) := by decide +kernel
theorem dX2_leastSkill_38 : decode cX2_leastSkill 38 = .ok (.ireturn, 1) := by decide +kernel
theorem dX2_leastSkill_39 : decode cX2_leastSkill 39 = .ok (.iinc 4 1, 3) := by decide +kernel
theorem dX2_leastSkill_42 : decode cX2_leastSkill 42 = .ok (.goto (-39), 3) := by decide +kernel
theorem dX2_leastSkill_45 : decode cX2_leastSkill 45 = .ok (.bipush (-9), 2) := by decide +kernel
theorem dX2_leastSkill_47 : decode cX2_leastSkill 47 = .ok (.ireturn, 1) := by decide +kernel
theorem dX2_chancesWithBalls_0 : decode cX2_chancesWithBalls 0 = .ok (.aload_n 0, 1) := by decide +kernel
theorem dX2_chancesWithBalls_1 : decode cX2_chancesWithBalls 1 = .ok (.getfield 9, 3) := by decide +kernel
theorem dX2_chancesWithBalls_4 : decode cX2_chancesWithBalls 4 = .ok (.getfield 28, 3) := by decide +kernel
theorem dX2_chancesWithBalls_7 : decode cX2_chancesWithBalls 7 = .ok (.iload_n 2, 1) := by decide +kernel
theorem dX2_chancesWithBalls_8 : decode cX2_chancesWithBalls 8 = .ok (.invokestatic 21, 3) := by decide +kernel
theorem dX2_chancesWithBalls_11 : decode cX2_chancesWithBalls 11 = .ok (.istore 4, 2) := by decide +kernel
theorem dX2_chancesWithBalls_13 : decode cX2_chancesWithBalls 13 = .ok (.iload 4, 2) := by decide +kernel
theorem dX2_chancesWithBalls_15 : decode cX2_chancesWithBalls 15 = .ok (.invokestatic 60, 3) := by decide +kernel
theorem dX2_chancesWithBalls_18 : decode cX2_chancesWithBalls 18 = .ok (.istore 5, 2) := by decide +kernel
theorem dX2_chancesWithBalls_20 : decode cX2_chancesWithBalls 20 = .ok (.lconst 0, 1) := by decide +kernel
theorem dX2_chancesWithBalls_21 : decode cX2_chancesWithBalls 21 = .ok (.lstore 6, 2) := by decide +kernel
theorem dX2_chancesWithBalls_23 : decode cX2_chancesWithBalls 23 = .ok (.iconst 0, 1) := by decide +kernel
theorem dX2_chancesWithBalls_24 : decode cX2_chancesWithBalls 24 = .ok (.istore 8, 2) := by decide +kernel
theorem dX2_chancesWithBalls_26 : decode cX2_chancesWithBalls 26 = .ok (.iload 8, 2) := by decide +kernel
theorem dX2_chancesWithBalls_28 : decode cX2_chancesWithBalls 28 = .ok (.iload 4, 2) := by decide +kernel
theorem dX2_chancesWithBalls_30 : decode cX2_chancesWithBalls 30 = .ok (.if_icmp .gt 50, 3) := by decide +kernel
theorem dX2_chancesWithBalls_33 : decode cX2_chancesWithBalls 33 = .ok (.iload 8, 2) := by decide +kernel
theorem dX2_chancesWithBalls_35 : decode cX2_chancesWithBalls 35 = .ok (.iload 4, 2) := by decide +kernel
theorem dX2_chancesWithBalls_37 : decode cX2_chancesWithBalls 37 = .ok (.iconst (-1), 1) := by decide +kernel
theorem dX2_chancesWithBalls_38 : decode cX2_chancesWithBalls 38 = .ok (.ixor, 1) := by decide +kernel
theorem dX2_chancesWithBalls_39 : decode cX2_chancesWithBalls 39 = .ok (.iand, 1) := by decide +kernel
theorem dX2_chancesWithBalls_40 : decode cX2_chancesWithBalls 40 = .ok (.ifCond .ne 34, 3) := by decide +kernel
theorem dX2_chancesWithBalls_43 : decode cX2_chancesWithBalls 43 = .ok (.aload_n 0, 1) := by decide +kernel
theorem dX2_chancesWithBalls_44 : decode cX2_chancesWithBalls 44 = .ok (.iload_n 1, 1) := by decide +kernel
theorem dX2_chancesWithBalls_45 : decode cX2_chancesWithBalls 45 = .ok (.iload 4, 2) := by decide +kernel
theorem dX2_chancesWithBalls_47 : decode cX2_chancesWithBalls 47 = .ok (.iload 8, 2) := by decide +kernel
theorem dX2_chancesWithBalls_49 : decode cX2_chancesWithBalls 49 = .ok (.invokevirtual 78, 3) := by decide +kernel
theorem dX2_chancesWithBalls_52 : decode cX2_chancesWithBalls 52 = .ok (.ifCond .eq 22, 3) := by decide +kernel
theorem dX2_chancesWithBalls_55 : decode cX2_chancesWithBalls 55 = .ok (.lload 6, 2) := by decide +kernel
theorem dX2_chancesWithBalls_57 : decode cX2_chancesWithBalls 57 = .ok (.iload_n 3, 1) := by decide +kernel
theorem dX2_chancesWithBalls_58 : decode cX2_chancesWithBalls 58 = .ok (.iconst 1, 1) := by decide +kernel
theorem dX2_chancesWithBalls_59 : decode cX2_chancesWithBalls 59 = .ok (.isub, 1) := by decide +kernel
theorem dX2_chancesWithBalls_60 : decode cX2_chancesWithBalls 60 = .ok (.iload 5, 2) := by decide +kernel
theorem dX2_chancesWithBalls_62 : decode cX2_chancesWithBalls 62 = .ok (.iload 8, 2) := by decide +kernel
theorem dX2_chancesWithBalls_64 : decode cX2_chancesWithBalls 64 = .ok (.invokestatic 60, 3) := by decide +kernel
theorem dX2_chancesWithBalls_67 : decode cX2_chancesWithBalls 67 = .ok (.isub, 1) := by decide +kernel
theorem dX2_chancesWithBalls_68 : decode cX2_chancesWithBalls 68 = .ok (.invokestatic 81, 3) := by decide +kernel
theorem dX2_chancesWithBalls_71 : decode cX2_chancesWithBalls 71 = .ok (.ladd, 1) := by decide +kernel
theorem dX2_chancesWithBalls_72 : decode cX2_chancesWithBalls 72 = .ok (.lstore 6, 2) := by decide +kernel
theorem dX2_chancesWithBalls_74 : decode cX2_chancesWithBalls 74 = .ok (.iinc 8 1, 3) := by decide +kernel
theorem dX2_chancesWithBalls_77 : decode cX2_chancesWithBalls 77 = .ok (.goto (-51), 3) := by decide +kernel
theorem dX2_chancesWithBalls_80 : decode cX2_chancesWithBalls 80 = .ok (.lload 6, 2) := by decide +kernel
theorem dX2_chancesWithBalls_82 : decode cX2_chancesWithBalls 82 = .ok (.lreturn, 1) := by decide +kernel
theorem dX2_passesWithBalls_0 : decode cX2_passesWithBalls 0 = .ok (.iconst 0, 1) := by decide +kernel
theorem dX2_passesWithBalls_1 : decode cX2_passesWithBalls 1 = .ok (.istore 4, 2) := by decide +kernel
theorem dX2_passesWithBalls_3 : decode cX2_passesWithBalls 3 = .ok (.iconst 0, 1) := by decide +kernel
theorem dX2_passesWithBalls_4 : decode cX2_passesWithBalls 4 = .ok (.istore 5, 2) := by decide +kernel
theorem dX2_passesWithBalls_6 : decode cX2_passesWithBalls 6 = .ok (.iload 5, 2) := by decide +kernel
theorem dX2_passesWithBalls_8 : decode cX2_passesWithBalls 8 = .ok (.aload_n 0, 1) := by decide +kernel
theorem dX2_passesWithBalls_9 : decode cX2_passesWithBalls 9 = .ok (.getfield 9, 3) := by decide +kernel
theorem dX2_passesWithBalls_12 : decode cX2_passesWithBalls 12 = .ok (.getfield 31, 3) := by decide +kernel
theorem dX2_passesWithBalls_15 : decode cX2_passesWithBalls 15 = .ok (.if_icmp .ge 75, 3) := by decide +kernel
theorem dX2_passesWithBalls_18 : decode cX2_passesWithBalls 18 = .ok (.iload_n 2, 1) := by decide +kernel
theorem dX2_passesWithBalls_19 : decode cX2_passesWithBalls 19 = .ok (.iload 5, 2) := by decide +kernel
theorem dX2_passesWithBalls_21 : decode cX2_passesWithBalls 21 = .ok (.invokestatic 35, 3) := by decide +kernel
theorem dX2_passesWithBalls_24 : decode cX2_passesWithBalls 24 = .ok (.ifCond .eq 60, 3) := by decide +kernel
theorem dX2_passesWithBalls_27 : decode cX2_passesWithBalls 27 = .ok (.aload_n 0, 1) := by decide +kernel
theorem dX2_passesWithBalls_28 : decode cX2_passesWithBalls 28 = .ok (.getfield 9, 3) := by decide +kernel
theorem dX2_passesWithBalls_31 : decode cX2_passesWithBalls 31 = .ok (.iload_n 1, 1) := by decide +kernel
theorem dX2_passesWithBalls_32 : decode cX2_passesWithBalls 32 = .ok (.iload 5, 2) := by decide +kernel
theorem dX2_passesWithBalls_34 : decode cX2_passesWithBalls 34 = .ok (.aload_n 0, 1) := by decide +kernel
theorem dX2_passesWithBalls_35 : decode cX2_passesWithBalls 35 = .ok (.getfield 9, 3) := by decide +kernel
theorem dX2_passesWithBalls_38 : decode cX2_passesWithBalls 38 = .ok (.getfield 85, 3) := by decide +kernel
theorem dX2_passesWithBalls_41 : decode cX2_passesWithBalls 41 = .ok (.invokevirtual 39, 3) := by decide +kernel
theorem dX2_passesWithBalls_44 : decode cX2_passesWithBalls 44 = .ok (.iload_n 3, 1) := by decide +kernel
theorem dX2_passesWithBalls_45 : decode cX2_passesWithBalls 45 = .ok (.iload 5, 2) := by decide +kernel
theorem dX2_passesWithBalls_47 : decode cX2_passesWithBalls 47 = .ok (.invokestatic 35, 3) := by decide +kernel
theorem dX2_passesWithBalls_50 : decode cX2_passesWithBalls 50 = .ok (.ifCond .eq 15, 3) := by decide +kernel
theorem dX2_passesWithBalls_53 : decode cX2_passesWithBalls 53 = .ok (.aload_n 0, 1) := by decide +kernel
theorem dX2_passesWithBalls_54 : decode cX2_passesWithBalls 54 = .ok (.getfield 9, 3) := by decide +kernel
theorem dX2_passesWithBalls_57 : decode cX2_passesWithBalls 57 = .ok (.iload 5, 2) := by decide +kernel
theorem dX2_passesWithBalls_59 : decode cX2_passesWithBalls 59 = .ok (.invokevirtual 88, 3) := by decide +kernel
theorem dX2_passesWithBalls_62 : decode cX2_passesWithBalls 62 = .ok (.goto 4, 3) := by decide +kernel
theorem dX2_passesWithBalls_65 : decode cX2_passesWithBalls 65 = .ok (.iconst 0, 1) := by decide +kernel
theorem dX2_passesWithBalls_66 : decode cX2_passesWithBalls 66 = .ok (.iadd, 1) := by decide +kernel
theorem dX2_passesWithBalls_67 : decode cX2_passesWithBalls 67 = .ok (.istore 6, 2) := by decide +kernel
theorem dX2_passesWithBalls_69 : decode cX2_passesWithBalls 69 = .ok (.iload 6, 2) := by decide +kernel
theorem dX2_passesWithBalls_71 : decode cX2_passesWithBalls 71 = .ok (.iconst 5, 1) := by decide +kernel
theorem dX2_passesWithBalls_72 : decode cX2_passesWithBalls 72 = .ok (.if_icmp .le 5, 3) := by decide +kernel
theorem dX2_passesWithBalls_75 : decode cX2_passesWithBalls 75 = .ok (.iconst 0, 1) := by decide +kernel
theorem dX2_passesWithBalls_76 : decode cX2_passesWithBalls 76 = .ok (.ireturn, 1) := by decide +kernel
theorem dX2_passesWithBalls_77 : decode cX2_passesWithBalls 77 = .ok (.iload 4, 2) := by decide +kernel
theorem dX2_passesWithBalls_79 : decode cX2_passesWithBalls 79 = .ok (.iload 6, 2) := by decide +kernel
theorem dX2_passesWithBalls_81 : decode cX2_passesWithBalls 81 = .ok (.iadd, 1) := by decide +kernel
theorem dX2_passesWithBalls_82 : decode cX2_passesWithBalls 82 = .ok (.istore 4, 2) := by decide +kernel
theorem dX2_passesWithBalls_84 : decode cX2_passesWithBalls 84 = .ok (.iinc 5 1, 3) := by decide +kernel
theorem dX2_passesWithBalls_87 : decode cX2_passesWithBalls 87 = .ok (.goto (-81), 3) := by decide +kernel
theorem dX2_passesWithBalls_90 : decode cX2_passesWithBalls 90 = .ok (.iload 4, 2) := by decide +kernel
theorem dX2_passesWithBalls_92 : decode cX2_passesWithBalls 92 = .ok (.aload_n 0, 1) := by decide +kernel
theorem dX2_passesWithBalls_93 : decode cX2_passesWithBalls 93 = .ok (.getfield 9, 3) := by decide +kernel
theorem dX2_passesWithBalls_96 : decode cX2_passesWithBalls 96 = .ok (.getfield 75, 3) := by decide +kernel
theorem dX2_passesWithBalls_99 : decode cX2_passesWithBalls 99 = .ok (.if_icmp .gt 7, 3) := by decide +kernel
theorem dX2_passesWithBalls_102 : decode cX2_passesWithBalls 102 = .ok (.iconst 1, 1) := by decide +kernel
theorem dX2_passesWithBalls_103 : decode cX2_passesWithBalls 103 = .ok (.goto 4, 3) := by decide +kernel
theorem dX2_passesWithBalls_106 : decode cX2_passesWithBalls 106 = .ok (.iconst 0, 1) := by decide +kernel
theorem dX2_passesWithBalls_107 : decode cX2_passesWithBalls 107 = .ok (.ireturn, 1) := by decide +kernel
theorem dX2_passedKnowing_0 : decode cX2_passedKnowing 0 = .ok (.iconst 0, 1) := by decide +kernel
theorem dX2_passedKnowing_1 : decode cX2_passedKnowing 1 = .ok (.istore_n 3, 1) := by decide +kernel
theorem dX2_passedKnowing_2 : decode cX2_passedKnowing 2 = .ok (.iconst 0, 1) := by decide +kernel
theorem dX2_passedKnowing_3 : decode cX2_passedKnowing 3 = .ok (.istore 4, 2) := by decide +kernel
theorem dX2_passedKnowing_5 : decode cX2_passedKnowing 5 = .ok (.iload 4, 2) := by decide +kernel
theorem dX2_passedKnowing_7 : decode cX2_passedKnowing 7 = .ok (.bipush 24, 2) := by decide +kernel
theorem dX2_passedKnowing_9 : decode cX2_passedKnowing 9 = .ok (.if_icmp .ge 30, 3) := by decide +kernel
theorem dX2_passedKnowing_12 : decode cX2_passedKnowing 12 = .ok (.iload_n 3, 1) := by decide +kernel
theorem dX2_passedKnowing_13 : decode cX2_passedKnowing 13 = .ok (.aload_n 0, 1) := by decide +kernel
theorem dX2_passedKnowing_14 : decode cX2_passedKnowing 14 = .ok (.getfield 9, 3) := by decide +kernel
theorem dX2_passedKnowing_17 : decode cX2_passedKnowing 17 = .ok (.aload_n 0, 1) := by decide +kernel
theorem dX2_passedKnowing_18 : decode cX2_passedKnowing 18 = .ok (.iload_n 1, 1) := by decide +kernel
theorem dX2_passedKnowing_19 : decode cX2_passedKnowing 19 = .ok (.invokevirtual 69, 3) := by decide +kernel
theorem dX2_passedKnowing_22 : decode cX2_passedKnowing 22 = .ok (.iload_n 2, 1) := by decide +kernel
theorem dX2_passedKnowing_23 : decode cX2_passedKnowing 23 = .ok (.iload 4, 2) := by decide +kernel
theorem dX2_passedKnowing_25 : decode cX2_passedKnowing 25 = .ok (.invokevirtual 91, 3) := by decide +kernel
theorem dX2_passedKnowing_28 : decode cX2_passedKnowing 28 = .ok (.invokestatic 60, 3) := by decide +kernel
theorem dX2_passedKnowing_31 : decode cX2_passedKnowing 31 = .ok (.iadd, 1) := by decide +kernel
theorem dX2_passedKnowing_32 : decode cX2_passedKnowing 32 = .ok (.istore_n 3, 1) := by decide +kernel
theorem dX2_passedKnowing_33 : decode cX2_passedKnowing 33 = .ok (.iinc 4 1, 3) := by decide +kernel
theorem dX2_passedKnowing_36 : decode cX2_passedKnowing 36 = .ok (.goto (-31), 3) := by decide +kernel
theorem dX2_passedKnowing_39 : decode cX2_passedKnowing 39 = .ok (.iload_n 3, 1) := by decide +kernel
theorem dX2_passedKnowing_40 : decode cX2_passedKnowing 40 = .ok (.ireturn, 1) := by decide +kernel
theorem dX2_gained_0 : decode cX2_gained 0 = .ok (.aload_n 0, 1) := by decide +kernel
theorem dX2_gained_1 : decode cX2_gained 1 = .ok (.iload_n 1, 1) := by decide +kernel
theorem dX2_gained_2 : decode cX2_gained 2 = .ok (.invokevirtual 53, 3) := by decide +kernel
theorem dX2_gained_5 : decode cX2_gained 5 = .ok (.istore_n 3, 1) := by decide +kernel
theorem dX2_gained_6 : decode cX2_gained 6 = .ok (.aload_n 0, 1) := by decide +kernel
theorem dX2_gained_7 : decode cX2_gained 7 = .ok (.iload_n 1, 1) := by decide +kernel
theorem dX2_gained_8 : decode cX2_gained 8 = .ok (.iload_n 3, 1) := by decide +kernel
theorem dX2_gained_9 : decode cX2_gained 9 = .ok (.iconst 1, 1) := by decide +kernel
theorem dX2_gained_10 : decode cX2_gained 10 = .ok (.iload_n 2, 1) := by decide +kernel
theorem dX2_gained_11 : decode cX2_gained 11 = .ok (.ishl, 1) := by decide +kernel
theorem dX2_gained_12 : decode cX2_gained 12 = .ok (.ior, 1) := by decide +kernel
theorem dX2_gained_13 : decode cX2_gained 13 = .ok (.invokevirtual 94, 3) := by decide +kernel
theorem dX2_gained_16 : decode cX2_gained 16 = .ok (.aload_n 0, 1) := by decide +kernel
theorem dX2_gained_17 : decode cX2_gained 17 = .ok (.iload_n 1, 1) := by decide +kernel
theorem dX2_gained_18 : decode cX2_gained 18 = .ok (.iload_n 3, 1) := by decide +kernel
theorem dX2_gained_19 : decode cX2_gained 19 = .ok (.invokevirtual 94, 3) := by decide +kernel
theorem dX2_gained_22 : decode cX2_gained 22 = .ok (.isub, 1) := by decide +kernel
theorem dX2_gained_23 : decode cX2_gained 23 = .ok (.ireturn, 1) := by decide +kernel
theorem dX2_bestLesson_0 : decode cX2_bestLesson 0 = .ok (.aload_n 0, 1) := by decide +kernel
theorem dX2_bestLesson_1 : decode cX2_bestLesson 1 = .ok (.iload_n 1, 1) := by decide +kernel
theorem dX2_bestLesson_2 : decode cX2_bestLesson 2 = .ok (.invokevirtual 53, 3) := by decide +kernel
theorem dX2_bestLesson_5 : decode cX2_bestLesson 5 = .ok (.istore_n 2, 1) := by decide +kernel
theorem dX2_bestLesson_6 : decode cX2_bestLesson 6 = .ok (.iconst (-1), 1) := by decide +kernel
theorem dX2_bestLesson_7 : decode cX2_bestLesson 7 = .ok (.istore_n 3, 1) := by decide +kernel
theorem dX2_bestLesson_8 : decode cX2_bestLesson 8 = .ok (.bipush (-9), 2) := by decide +kernel
theorem dX2_bestLesson_10 : decode cX2_bestLesson 10 = .ok (.istore 4, 2) := by decide +kernel
theorem dX2_bestLesson_12 : decode cX2_bestLesson 12 = .ok (.iconst 0, 1) := by decide +kernel
theorem dX2_bestLesson_13 : decode cX2_bestLesson 13 = .ok (.istore 5, 2) := by decide +kernel
theorem dX2_bestLesson_15 : decode cX2_bestLesson 15 = .ok (.iload 5, 2) := by decide +kernel
theorem dX2_bestLesson_17 : decode cX2_bestLesson 17 = .ok (.aload_n 0, 1) := by decide +kernel
theorem dX2_bestLesson_18 : decode cX2_bestLesson 18 = .ok (.getfield 9, 3) := by decide +kernel
theorem dX2_bestLesson_21 : decode cX2_bestLesson 21 = .ok (.getfield 31, 3) := by decide +kernel
theorem dX2_bestLesson_24 : decode cX2_bestLesson 24 = .ok (.if_icmp .ge 44, 3) := by decide +kernel
theorem dX2_bestLesson_27 : decode cX2_bestLesson 27 = .ok (.iload_n 2, 1) := by decide +kernel
theorem dX2_bestLesson_28 : decode cX2_bestLesson 28 = .ok (.iload 5, 2) := by decide +kernel
theorem dX2_bestLesson_30 : decode cX2_bestLesson 30 = .ok (.invokestatic 35, 3) := by decide +kernel
theorem dX2_bestLesson_33 : decode cX2_bestLesson 33 = .ok (.ifCond .ne 29, 3) := by decide +kernel
theorem dX2_bestLesson_36 : decode cX2_bestLesson 36 = .ok (.aload_n 0, 1) := by decide +kernel
theorem dX2_bestLesson_37 : decode cX2_bestLesson 37 = .ok (.iload_n 1, 1) := by decide +kernel
theorem dX2_bestLesson_38 : decode cX2_bestLesson 38 = .ok (.iload_n 2, 1) := by decide +kernel
theorem dX2_bestLesson_39 : decode cX2_bestLesson 39 = .ok (.iconst 1, 1) := by decide +kernel
theorem dX2_bestLesson_40 : decode cX2_bestLesson 40 = .ok (.iload 5, 2) := by decide +kernel
theorem dX2_bestLesson_42 : decode cX2_bestLesson 42 = .ok (.ishl, 1) := by decide +kernel
theorem dX2_bestLesson_43 : decode cX2_bestLesson 43 = .ok (.ior, 1) := by decide +kernel
theorem dX2_bestLesson_44 : decode cX2_bestLesson 44 = .ok (.invokevirtual 94, 3) := by decide +kernel
theorem dX2_bestLesson_47 : decode cX2_bestLesson 47 = .ok (.istore 6, 2) := by decide +kernel
theorem dX2_bestLesson_49 : decode cX2_bestLesson 49 = .ok (.iload 6, 2) := by decide +kernel
theorem dX2_bestLesson_51 : decode cX2_bestLesson 51 = .ok (.iload_n 3, 1) := by decide +kernel
theorem dX2_bestLesson_52 : decode cX2_bestLesson 52 = .ok (.if_icmp .le 10, 3) := by decide +kernel
theorem dX2_bestLesson_55 : decode cX2_bestLesson 55 = .ok (.iload 6, 2) := by decide +kernel
theorem dX2_bestLesson_57 : decode cX2_bestLesson 57 = .ok (.istore_n 3, 1) := by decide +kernel
theorem dX2_bestLesson_58 : decode cX2_bestLesson 58 = .ok (.iload 5, 2) := by decide +kernel
theorem dX2_bestLesson_60 : decode cX2_bestLesson 60 = .ok (.istore 4, 2) := by decide +kernel
theorem dX2_bestLesson_62 : decode cX2_bestLesson 62 = .ok (.iinc 5 1, 3) := by decide +kernel
theorem dX2_bestLesson_65 : decode cX2_bestLesson 65 = .ok (.goto (-50), 3) := by decide +kernel
theorem dX2_bestLesson_68 : decode cX2_bestLesson 68 = .ok (.iload 4, 2) := by decide +kernel
theorem dX2_bestLesson_70 : decode cX2_bestLesson 70 = .ok (.ireturn, 1) := by decide +kernel
theorem dX2_passedInRow_0 : decode cX2_passedInRow 0 = .ok (.aload_n 0, 1) := by decide +kernel
theorem dX2_passedInRow_1 : decode cX2_passedInRow 1 = .ok (.iload_n 1, 1) := by decide +kernel
theorem dX2_passedInRow_2 : decode cX2_passedInRow 2 = .ok (.invokevirtual 53, 3) := by decide +kernel
theorem dX2_passedInRow_5 : decode cX2_passedInRow 5 = .ok (.istore_n 3, 1) := by decide +kernel
theorem dX2_passedInRow_6 : decode cX2_passedInRow 6 = .ok (.iconst 0, 1) := by decide +kernel
theorem dX2_passedInRow_7 : decode cX2_passedInRow 7 = .ok (.istore 4, 2) := by decide +kernel
theorem dX2_passedInRow_9 : decode cX2_passedInRow 9 = .ok (.iconst 0, 1) := by decide +kernel
theorem dX2_passedInRow_10 : decode cX2_passedInRow 10 = .ok (.istore 5, 2) := by decide +kernel
theorem dX2_passedInRow_12 : decode cX2_passedInRow 12 = .ok (.iload 5, 2) := by decide +kernel
theorem dX2_passedInRow_14 : decode cX2_passedInRow 14 = .ok (.iload_n 2, 1) := by decide +kernel
theorem dX2_passedInRow_15 : decode cX2_passedInRow 15 = .ok (.if_icmp .ge 83, 3) := by decide +kernel
theorem dX2_passedInRow_18 : decode cX2_passedInRow 18 = .ok (.aload_n 0, 1) := by decide +kernel
theorem dX2_passedInRow_19 : decode cX2_passedInRow 19 = .ok (.getfield 9, 3) := by decide +kernel
theorem dX2_passedInRow_22 : decode cX2_passedInRow 22 = .ok (.getfield 50, 3) := by decide +kernel
theorem dX2_passedInRow_25 : decode cX2_passedInRow 25 = .ok (.ifCond .le 73, 3) := by decide +kernel
theorem dX2_passedInRow_28 : decode cX2_passedInRow 28 = .ok (.iload 5, 2) := by decide +kernel
theorem dX2_passedInRow_30 : decode cX2_passedInRow 30 = .ok (.aload_n 0, 1) := by decide +kernel
theorem dX2_passedInRow_31 : decode cX2_passedInRow 31 = .ok (.getfield 9, 3) := by decide +kernel
theorem dX2_passedInRow_34 : decode cX2_passedInRow 34 = .ok (.getfield 50, 3) := by decide +kernel
theorem dX2_passedInRow_37 : decode cX2_passedInRow 37 = .ok (.invokestatic 98, 3) := by decide +kernel
theorem dX2_passedInRow_40 : decode cX2_passedInRow 40 = .ok (.istore 6, 2) := by decide +kernel
theorem dX2_passedInRow_42 : decode cX2_passedInRow 42 = .ok (.aload_n 0, 1) := by decide +kernel
theorem dX2_passedInRow_43 : decode cX2_passedInRow 43 = .ok (.getfield 9, 3) := by decide +kernel
theorem dX2_passedInRow_46 : decode cX2_passedInRow 46 = .ok (.iload 6, 2) := by decide +kernel
theorem dX2_passedInRow_48 : decode cX2_passedInRow 48 = .ok (.aload_n 0, 1) := by decide +kernel
theorem dX2_passedInRow_49 : decode cX2_passedInRow 49 = .ok (.iload_n 1, 1) := by decide +kernel
theorem dX2_passedInRow_50 : decode cX2_passedInRow 50 = .ok (.invokevirtual 69, 3) := by decide +kernel
theorem dX2_passedInRow_53 : decode cX2_passedInRow 53 = .ok (.iload_n 3, 1) := by decide +kernel
theorem dX2_passedInRow_54 : decode cX2_passedInRow 54 = .ok (.aload_n 0, 1) := by decide +kernel
theorem dX2_passedInRow_55 : decode cX2_passedInRow 55 = .ok (.getfield 9, 3) := by decide +kernel
theorem dX2_passedInRow_58 : decode cX2_passedInRow 58 = .ok (.getfield 85, 3) := by decide +kernel
theorem dX2_passedInRow_61 : decode cX2_passedInRow 61 = .ok (.invokevirtual 71, 3) := by decide +kernel
theorem dX2_passedInRow_64 : decode cX2_passedInRow 64 = .ok (.aload_n 0, 1) := by decide +kernel
theorem dX2_passedInRow_65 : decode cX2_passedInRow 65 = .ok (.getfield 9, 3) := by decide +kernel
theorem dX2_passedInRow_68 : decode cX2_passedInRow 68 = .ok (.getfield 75, 3) := by decide +kernel
theorem dX2_passedInRow_71 : decode cX2_passedInRow 71 = .ok (.if_icmp .gt 6, 3) := by decide +kernel
theorem dX2_passedInRow_74 : decode cX2_passedInRow 74 = .ok (.iinc 4 1, 3) := by decide +kernel
theorem dX2_passedInRow_77 : decode cX2_passedInRow 77 = .ok (.iload_n 3, 1) := by decide +kernel
theorem dX2_passedInRow_78 : decode cX2_passedInRow 78 = .ok (.aload_n 0, 1) := by decide +kernel
theorem dX2_passedInRow_79 : decode cX2_passedInRow 79 = .ok (.getfield 9, 3) := by decide +kernel
theorem dX2_passedInRow_82 : decode cX2_passedInRow 82 = .ok (.getfield 28, 3) := by decide +kernel
theorem dX2_passedInRow_85 : decode cX2_passedInRow 85 = .ok (.iload 6, 2) := by decide +kernel
theorem dX2_passedInRow_87 : decode cX2_passedInRow 87 = .ok (.invokestatic 21, 3) := by decide +kernel
theorem dX2_passedInRow_90 : decode cX2_passedInRow 90 = .ok (.ior, 1) := by decide +kernel
theorem dX2_passedInRow_91 : decode cX2_passedInRow 91 = .ok (.istore_n 3, 1) := by decide +kernel
theorem dX2_passedInRow_92 : decode cX2_passedInRow 92 = .ok (.iinc 5 1, 3) := by decide +kernel
theorem dX2_passedInRow_95 : decode cX2_passedInRow 95 = .ok (.goto (-83), 3) := by decide +kernel
theorem dX2_passedInRow_98 : decode cX2_passedInRow 98 = .ok (.iload 4, 2) := by decide +kernel
theorem dX2_passedInRow_100 : decode cX2_passedInRow 100 = .ok (.ireturn, 1) := by decide +kernel
theorem dX3_init_0 : decode cX3_init 0 = .ok (.aload_n 0, 1) := by decide +kernel
theorem dX3_init_1 : decode cX3_init 1 = .ok (.invokespecial 3, 3) := by decide +kernel
theorem dX3_init_4 : decode cX3_init 4 = .ok (.aload_n 0, 1) := by decide +kernel
theorem dX3_init_5 : decode cX3_init 5 = .ok (.aload_n 1, 1) := by decide +kernel
theorem dX3_init_6 : decode cX3_init 6 = .ok (.putfield 9, 3) := by decide +kernel
theorem dX3_init_9 : decode cX3_init 9 = .ok (.return_, 1) := by decide +kernel
theorem dX3_sharedBy_0 : decode cX3_sharedBy 0 = .ok (.aload_n 0, 1) := by decide +kernel
theorem dX3_sharedBy_1 : decode cX3_sharedBy 1 = .ok (.getfield 9, 3) := by decide +kernel
theorem dX3_sharedBy_4 : decode cX3_sharedBy 4 = .ok (.getfield 15, 3) := by decide +kernel
theorem dX3_sharedBy_7 : decode cX3_sharedBy 7 = .ok (.iload_n 1, 1) := by decide +kernel
theorem dX3_sharedBy_8 : decode cX3_sharedBy 8 = .ok (.invokestatic 21, 3) := by decide +kernel
theorem dX3_sharedBy_11 : decode cX3_sharedBy 11 = .ok (.aload_n 0, 1) := by decide +kernel
theorem dX3_sharedBy_12 : decode cX3_sharedBy 12 = .ok (.getfield 9, 3) := by decide +kernel
theorem dX3_sharedBy_15 : decode cX3_sharedBy 15 = .ok (.getfield 15, 3) := by decide +kernel
theorem dX3_sharedBy_18 : decode cX3_sharedBy 18 = .ok (.iload_n 2, 1) := by decide +kernel
theorem dX3_sharedBy_19 : decode cX3_sharedBy 19 = .ok (.invokestatic 21, 3) := by decide +kernel
theorem dX3_sharedBy_22 : decode cX3_sharedBy 22 = .ok (.iand, 1) := by decide +kernel
theorem dX3_sharedBy_23 : decode cX3_sharedBy 23 = .ok (.invokestatic 25, 3) := by decide +kernel
theorem dX3_sharedBy_26 : decode cX3_sharedBy 26 = .ok (.ireturn, 1) := by decide +kernel
theorem dX3_mostAlikeTwo_0 : decode cX3_mostAlikeTwo 0 = .ok (.iconst (-1), 1) := by decide +kernel
theorem dX3_mostAlikeTwo_1 : decode cX3_mostAlikeTwo 1 = .ok (.istore_n 1, 1) := by decide +kernel
theorem dX3_mostAlikeTwo_2 : decode cX3_mostAlikeTwo 2 = .ok (.bipush (-9), 2) := by decide +kernel
theorem dX3_mostAlikeTwo_4 : decode cX3_mostAlikeTwo 4 = .ok (.istore_n 2, 1) := by decide +kernel
theorem dX3_mostAlikeTwo_5 : decode cX3_mostAlikeTwo 5 = .ok (.iconst 0, 1) := by decide +kernel
theorem dX3_mostAlikeTwo_6 : decode cX3_mostAlikeTwo 6 = .ok (.istore_n 3, 1) := by decide +kernel
theorem dX3_mostAlikeTwo_7 : decode cX3_mostAlikeTwo 7 = .ok (.iload_n 3, 1) := by decide +kernel
theorem dX3_mostAlikeTwo_8 : decode cX3_mostAlikeTwo 8 = .ok (.aload_n 0, 1) := by decide +kernel
theorem dX3_mostAlikeTwo_9 : decode cX3_mostAlikeTwo 9 = .ok (.getfield 9, 3) := by decide +kernel
theorem dX3_mostAlikeTwo_12 : decode cX3_mostAlikeTwo 12 = .ok (.getfield 31, 3) := by decide +kernel
theorem dX3_mostAlikeTwo_15 : decode cX3_mostAlikeTwo 15 = .ok (.if_icmp .ge 58, 3) := by decide +kernel
theorem dX3_mostAlikeTwo_18 : decode cX3_mostAlikeTwo 18 = .ok (.iload_n 3, 1) := by decide +kernel
theorem dX3_mostAlikeTwo_19 : decode cX3_mostAlikeTwo 19 = .ok (.iconst 1, 1) := by decide +kernel
theorem dX3_mostAlikeTwo_20 : decode cX3_mostAlikeTwo 20 = .ok (.iadd, 1) := by decide +kernel
theorem dX3_mostAlikeTwo_21 : decode cX3_mostAlikeTwo 21 = .ok (.istore 4, 2) := by decide +kernel
theorem dX3_mostAlikeTwo_23 : decode cX3_mostAlikeTwo 23 = .ok (.iload 4, 2) := by decide +kernel
theorem dX3_mostAlikeTwo_25 : decode cX3_mostAlikeTwo 25 = .ok (.aload_n 0, 1) := by decide +kernel
theorem dX3_mostAlikeTwo_26 : decode cX3_mostAlikeTwo 26 = .ok (.getfield 9, 3) := by decide +kernel
theorem dX3_mostAlikeTwo_29 : decode cX3_mostAlikeTwo 29 = .ok (.getfield 31, 3) := by decide +kernel
theorem dX3_mostAlikeTwo_32 : decode cX3_mostAlikeTwo 32 = .ok (.if_icmp .ge 35, 3) := by decide +kernel
theorem dX3_mostAlikeTwo_35 : decode cX3_mostAlikeTwo 35 = .ok (.aload_n 0, 1) := by decide +kernel
theorem dX3_mostAlikeTwo_36 : decode cX3_mostAlikeTwo 36 = .ok (.iload_n 3, 1) := by decide +kernel
theorem dX3_mostAlikeTwo_37 : decode cX3_mostAlikeTwo 37 = .ok (.iload 4, 2) := by decide +kernel
theorem dX3_mostAlikeTwo_39 : decode cX3_mostAlikeTwo 39 = .ok (.invokevirtual 35, 3) := by decide +kernel
theorem dX3_mostAlikeTwo_42 : decode cX3_mostAlikeTwo 42 = .ok (.istore 5, 2) := by decide +kernel
theorem dX3_mostAlikeTwo_44 : decode cX3_mostAlikeTwo 44 = .ok (.iload 5, 2) := by decide +kernel
theorem dX3_mostAlikeTwo_46 : decode cX3_mostAlikeTwo 46 = .ok (.iload_n 1, 1) := by decide +kernel
theorem dX3_mostAlikeTwo_47 : decode cX3_mostAlikeTwo 47 = .ok (.if_icmp .le 14, 3) := by decide +kernel
theorem dX3_mostAlikeTwo_50 : decode cX3_mostAlikeTwo 50 = .ok (.iload 5, 2) := by decide +kernel
theorem dX3_mostAlikeTwo_52 : decode cX3_mostAlikeTwo 52 = .ok (.istore_n 1, 1) := by decide +kernel
theorem dX3_mostAlikeTwo_53 : decode cX3_mostAlikeTwo 53 = .ok (.bipush 10, 2) := by decide +kernel
theorem dX3_mostAlikeTwo_55 : decode cX3_mostAlikeTwo 55 = .ok (.iload_n 3, 1) := by decide +kernel
theorem dX3_mostAlikeTwo_56 : decode cX3_mostAlikeTwo 56 = .ok (.imul, 1) := by decide +kernel
theorem dX3_mostAlikeTwo_57 : decode cX3_mostAlikeTwo 57 = .ok (.iload 4, 2) := by decide +kernel
theorem dX3_mostAlikeTwo_59 : decode cX3_mostAlikeTwo 59 = .ok (.iadd, 1) := by decide +kernel
theorem dX3_mostAlikeTwo_60 : decode cX3_mostAlikeTwo 60 = .ok (.istore_n 2, 1) := by decide +kernel
theorem dX3_mostAlikeTwo_61 : decode cX3_mostAlikeTwo 61 = .ok (.iinc 4 1, 3) := by decide +kernel
theorem dX3_mostAlikeTwo_64 : decode cX3_mostAlikeTwo 64 = .ok (.goto (-41), 3) := by decide +kernel
theorem dX3_mostAlikeTwo_67 : decode cX3_mostAlikeTwo 67 = .ok (.iinc 3 1, 3) := by decide +kernel
theorem dX3_mostAlikeTwo_70 : decode cX3_mostAlikeTwo 70 = .ok (.goto (-63), 3) := by decide +kernel
theorem dX3_mostAlikeTwo_73 : decode cX3_mostAlikeTwo 73 = .ok (.iload_n 2, 1) := by decide +kernel
theorem dX3_mostAlikeTwo_74 : decode cX3_mostAlikeTwo 74 = .ok (.ireturn, 1) := by decide +kernel
theorem dX3_mostUnlikeTwo_0 : decode cX3_mostUnlikeTwo 0 = .ok (.aload_n 0, 1) := by decide +kernel
theorem dX3_mostUnlikeTwo_1 : decode cX3_mostUnlikeTwo 1 = .ok (.getfield 9, 3) := by decide +kernel
theorem dX3_mostUnlikeTwo_4 : decode cX3_mostUnlikeTwo 4 = .ok (.aload_n 0, 1) := by decide +kernel
theorem dX3_mostUnlikeTwo_5 : decode cX3_mostUnlikeTwo 5 = .ok (.getfield 9, 3) := by decide +kernel
theorem dX3_mostUnlikeTwo_8 : decode cX3_mostUnlikeTwo 8 = .ok (.invokevirtual 39, 3) := by decide +kernel
theorem dX3_mostUnlikeTwo_11 : decode cX3_mostUnlikeTwo 11 = .ok (.invokevirtual 43, 3) := by decide +kernel
theorem dX3_mostUnlikeTwo_14 : decode cX3_mostUnlikeTwo 14 = .ok (.istore_n 1, 1) := by decide +kernel
theorem dX3_mostUnlikeTwo_15 : decode cX3_mostUnlikeTwo 15 = .ok (.sipush 1000, 3) := by decide +kernel
theorem dX3_mostUnlikeTwo_18 : decode cX3_mostUnlikeTwo 18 = .ok (.istore_n 2, 1) := by decide +kernel
theorem dX3_mostUnlikeTwo_19 : decode cX3_mostUnlikeTwo 19 = .ok (.bipush (-9), 2) := by decide +kernel
theorem dX3_mostUnlikeTwo_21 : decode cX3_mostUnlikeTwo 21 = .ok (.istore_n 3, 1) := by decide +kernel
theorem dX3_mostUnlikeTwo_22 : decode cX3_mostUnlikeTwo 22 = .ok (.iconst 0, 1) := by decide +kernel
theorem dX3_mostUnlikeTwo_23 : decode cX3_mostUnlikeTwo 23 = .ok (.istore 4, 2) := by decide +kernel
theorem dX3_mostUnlikeTwo_25 : decode cX3_mostUnlikeTwo 25 = .ok (.iload 4, 2) := by decide +kernel
theorem dX3_mostUnlikeTwo_27 : decode cX3_mostUnlikeTwo 27 = .ok (.aload_n 0, 1) := by decide +kernel
theorem dX3_mostUnlikeTwo_28 : decode cX3_mostUnlikeTwo 28 = .ok (.getfield 9, 3) := by decide +kernel
theorem dX3_mostUnlikeTwo_31 : decode cX3_mostUnlikeTwo 31 = .ok (.getfield 31, 3) := by decide +kernel
theorem dX3_mostUnlikeTwo_34 : decode cX3_mostUnlikeTwo 34 = .ok (.if_icmp .ge 73, 3) := by decide +kernel
theorem dX3_mostUnlikeTwo_37 : decode cX3_mostUnlikeTwo 37 = .ok (.iload 4, 2) := by decide +kernel
theorem dX3_mostUnlikeTwo_39 : decode cX3_mostUnlikeTwo 39 = .ok (.iconst 1, 1) := by decide +kernel
theorem dX3_mostUnlikeTwo_40 : decode cX3_mostUnlikeTwo 40 = .ok (.iadd, 1) := by decide +kernel
theorem dX3_mostUnlikeTwo_41 : decode cX3_mostUnlikeTwo 41 = .ok (.istore 5, 2) := by decide +kernel
theorem dX3_mostUnlikeTwo_43 : decode cX3_mostUnlikeTwo 43 = .ok (.iload 5, 2) := by decide +kernel
theorem dX3_mostUnlikeTwo_45 : decode cX3_mostUnlikeTwo 45 = .ok (.aload_n 0, 1) := by decide +kernel
theorem dX3_mostUnlikeTwo_46 : decode cX3_mostUnlikeTwo 46 = .ok (.getfield 9, 3) := by decide +kernel
theorem dX3_mostUnlikeTwo_49 : decode cX3_mostUnlikeTwo 49 = .ok (.getfield 31, 3) := by decide +kernel
theorem dX3_mostUnlikeTwo_52 : decode cX3_mostUnlikeTwo 52 = .ok (.if_icmp .ge 49, 3) := by decide +kernel
theorem dX3_mostUnlikeTwo_55 : decode cX3_mostUnlikeTwo 55 = .ok (.aload_n 0, 1) := by decide +kernel
theorem dX3_mostUnlikeTwo_56 : decode cX3_mostUnlikeTwo 56 = .ok (.iload 4, 2) := by decide +kernel
theorem dX3_mostUnlikeTwo_58 : decode cX3_mostUnlikeTwo 58 = .ok (.iload 5, 2) := by decide +kernel
theorem dX3_mostUnlikeTwo_60 : decode cX3_mostUnlikeTwo 60 = .ok (.invokevirtual 35, 3) := by decide +kernel
theorem dX3_mostUnlikeTwo_63 : decode cX3_mostUnlikeTwo 63 = .ok (.istore 6, 2) := by decide +kernel
theorem dX3_mostUnlikeTwo_65 : decode cX3_mostUnlikeTwo 65 = .ok (.iload 6, 2) := by decide +kernel
theorem dX3_mostUnlikeTwo_67 : decode cX3_mostUnlikeTwo 67 = .ok (.iload_n 2, 1) := by decide +kernel
theorem dX3_mostUnlikeTwo_68 : decode cX3_mostUnlikeTwo 68 = .ok (.if_icmp .ge 27, 3) := by decide +kernel
theorem dX3_mostUnlikeTwo_71 : decode cX3_mostUnlikeTwo 71 = .ok (.aload_n 0, 1) := by decide +kernel
theorem dX3_mostUnlikeTwo_72 : decode cX3_mostUnlikeTwo 72 = .ok (.iload 4, 2) := by decide +kernel
theorem dX3_mostUnlikeTwo_74 : decode cX3_mostUnlikeTwo 74 = .ok (.iload 5, 2) := by decide +kernel
theorem dX3_mostUnlikeTwo_76 : decode cX3_mostUnlikeTwo 76 = .ok (.invokevirtual 46, 3) := by decide +kernel
theorem dX3_mostUnlikeTwo_79 : decode cX3_mostUnlikeTwo 79 = .ok (.iload_n 1, 1) := by decide +kernel
theorem dX3_mostUnlikeTwo_80 : decode cX3_mostUnlikeTwo 80 = .ok (.if_icmp .ne 15, 3) := by decide +kernel
theorem dX3_mostUnlikeTwo_83 : decode cX3_mostUnlikeTwo 83 = .ok (.iload 6, 2) := by decide +kernel
theorem dX3_mostUnlikeTwo_85 : decode cX3_mostUnlikeTwo 85 = .ok (.istore_n 2, 1) := by decide +kernel
theorem dX3_mostUnlikeTwo_86 : decode cX3_mostUnlikeTwo 86 = .ok (.bipush 10, 2) := by decide +kernel
theorem dX3_mostUnlikeTwo_88 : decode cX3_mostUnlikeTwo 88 = .ok (.iload 4, 2) := by decide +kernel
theorem dX3_mostUnlikeTwo_90 : decode cX3_mostUnlikeTwo 90 = .ok (.imul, 1) := by decide +kernel
theorem dX3_mostUnlikeTwo_91 : decode cX3_mostUnlikeTwo 91 = .ok (.iload 5, 2) := by decide +kernel
theorem dX3_mostUnlikeTwo_93 : decode cX3_mostUnlikeTwo 93 = .ok (.iadd, 1) := by decide +kernel
theorem dX3_mostUnlikeTwo_94 : decode cX3_mostUnlikeTwo 94 = .ok (.istore_n 3, 1) := by decide +kernel
theorem dX3_mostUnlikeTwo_95 : decode cX3_mostUnlikeTwo 95 = .ok (.iinc 5 1, 3) := by decide +kernel
theorem dX3_mostUnlikeTwo_98 : decode cX3_mostUnlikeTwo 98 = .ok (.goto (-55), 3) := by decide +kernel
theorem dX3_mostUnlikeTwo_101 : decode cX3_mostUnlikeTwo 101 = .ok (.iinc 4 1, 3) := by decide +kernel
theorem dX3_mostUnlikeTwo_104 : decode cX3_mostUnlikeTwo 104 = .ok (.goto (-79), 3) := by decide +kernel
theorem dX3_mostUnlikeTwo_107 : decode cX3_mostUnlikeTwo 107 = .ok (.iload_n 3, 1) := by decide +kernel
theorem dX3_mostUnlikeTwo_108 : decode cX3_mostUnlikeTwo 108 = .ok (.ireturn, 1) := by decide +kernel
theorem dX3_kindsOfTwo_0 : decode cX3_kindsOfTwo 0 = .ok (.aload_n 0, 1) := by decide +kernel
theorem dX3_kindsOfTwo_1 : decode cX3_kindsOfTwo 1 = .ok (.getfield 9, 3) := by decide +kernel
theorem dX3_kindsOfTwo_4 : decode cX3_kindsOfTwo 4 = .ok (.aload_n 0, 1) := by decide +kernel
theorem dX3_kindsOfTwo_5 : decode cX3_kindsOfTwo 5 = .ok (.getfield 9, 3) := by decide +kernel
theorem dX3_kindsOfTwo_8 : decode cX3_kindsOfTwo 8 = .ok (.getfield 15, 3) := by decide +kernel
theorem dX3_kindsOfTwo_11 : decode cX3_kindsOfTwo 11 = .ok (.iload_n 1, 1) := by decide +kernel
theorem dX3_kindsOfTwo_12 : decode cX3_kindsOfTwo 12 = .ok (.invokestatic 21, 3) := by decide +kernel
theorem dX3_kindsOfTwo_15 : decode cX3_kindsOfTwo 15 = .ok (.aload_n 0, 1) := by decide +kernel
theorem dX3_kindsOfTwo_16 : decode cX3_kindsOfTwo 16 = .ok (.getfield 9, 3) := by decide +kernel
theorem dX3_kindsOfTwo_19 : decode cX3_kindsOfTwo 19 = .ok (.getfield 15, 3) := by decide +kernel
theorem dX3_kindsOfTwo_22 : decode cX3_kindsOfTwo 22 = .ok (.iload_n 2, 1) := by decide +kernel
theorem dX3_kindsOfTwo_23 : decode cX3_kindsOfTwo 23 = .ok (.invokestatic 21, 3) := by decide +kernel
theorem dX3_kindsOfTwo_26 : decode cX3_kindsOfTwo 26 = .ok (.ior, 1) := by decide +kernel
theorem dX3_kindsOfTwo_27 : decode cX3_kindsOfTwo 27 = .ok (.invokevirtual 43, 3) := by decide +kernel
theorem dX3_kindsOfTwo_30 : decode cX3_kindsOfTwo 30 = .ok (.ireturn, 1) := by decide +kernel
theorem dX3_apart_0 : decode cX3_apart 0 = .ok (.sipush 1000, 3) := by decide +kernel
theorem dX3_apart_3 : decode cX3_apart 3 = .ok (.istore_n 3, 1) := by decide +kernel
theorem dX3_apart_4 : decode cX3_apart 4 = .ok (.iconst 0, 1) := by decide +kernel
theorem dX3_apart_5 : decode cX3_apart 5 = .ok (.istore 4, 2) := by decide +kernel
theorem dX3_apart_7 : decode cX3_apart 7 = .ok (.iconst 0, 1) := by decide +kernel
theorem dX3_apart_8 : decode cX3_apart 8 = .ok (.istore 5, 2) := by decide +kernel
theorem dX3_apart_10 : decode cX3_apart 10 = .ok (.iload 5, 2) := by decide +kernel
theorem dX3_apart_12 : decode cX3_apart 12 = .ok (.aload_n 0, 1) := by decide +kernel
theorem dX3_apart_13 : decode cX3_apart 13 = .ok (.getfield 9, 3) := by decide +kernel
theorem dX3_apart_16 : decode cX3_apart 16 = .ok (.getfield 31, 3) := by decide +kernel
theorem dX3_apart_19 : decode cX3_apart 19 = .ok (.if_icmp .ge 56, 3) := by decide +kernel
theorem dX3_apart_22 : decode cX3_apart 22 = .ok (.iload_n 1, 1) := by decide +kernel
theorem dX3_apart_23 : decode cX3_apart 23 = .ok (.iload 5, 2) := by decide +kernel
theorem dX3_apart_25 : decode cX3_apart 25 = .ok (.invokestatic 49, 3) := by decide +kernel
theorem dX3_apart_28 : decode cX3_apart 28 = .ok (.ifCond .eq 41, 3) := by decide +kernel
theorem dX3_apart_31 : decode cX3_apart 31 = .ok (.aload_n 0, 1) := by decide +kernel
theorem dX3_apart_32 : decode cX3_apart 32 = .ok (.getfield 9, 3) := by decide +kernel
theorem dX3_apart_35 : decode cX3_apart 35 = .ok (.aload_n 0, 1) := by decide +kernel
theorem dX3_apart_36 : decode cX3_apart 36 = .ok (.getfield 9, 3) := by decide +kernel
theorem dX3_apart_39 : decode cX3_apart 39 = .ok (.getfield 15, 3) := by decide +kernel
theorem dX3_apart_42 : decode cX3_apart 42 = .ok (.iload 5, 2) := by decide +kernel
theorem dX3_apart_44 : decode cX3_apart 44 = .ok (.invokestatic 21, 3) := by decide +kernel
theorem dX3_apart_47 : decode cX3_apart 47 = .ok (.iload_n 2, 1) := by decide +kernel
theorem dX3_apart_48 : decode cX3_apart 48 = .ok (.invokevirtual 53, 3) := by decide +kernel
theorem dX3_apart_51 : decode cX3_apart 51 = .ok (.istore 6, 2) := by decide +kernel
theorem dX3_apart_53 : decode cX3_apart 53 = .ok (.iload_n 3, 1) := by decide +kernel
theorem dX3_apart_54 : decode cX3_apart 54 = .ok (.iload 6, 2) := by decide +kernel
theorem dX3_apart_56 : decode cX3_apart 56 = .ok (.invokestatic 56, 3) := by decide +kernel
theorem dX3_apart_59 : decode cX3_apart 59 = .ok (.istore_n 3, 1) := by decide +kernel
theorem dX3_apart_60 : decode cX3_apart 60 = .ok (.iload 4, 2) := by decide +kernel
theorem dX3_apart_62 : decode cX3_apart 62 = .ok (.iload 6, 2) := by decide +kernel
theorem dX3_apart_64 : decode cX3_apart 64 = .ok (.invokestatic 61, 3) := by decide +kernel
theorem dX3_apart_67 : decode cX3_apart 67 = .ok (.istore 4, 2) := by decide +kernel
theorem dX3_apart_69 : decode cX3_apart 69 = .ok (.iinc 5 1, 3) := by decide +kernel
theorem dX3_apart_72 : decode cX3_apart 72 = .ok (.goto (-62), 3) := by decide +kernel
theorem dX3_apart_75 : decode cX3_apart 75 = .ok (.iconst 0, 1) := by decide +kernel
theorem dX3_apart_76 : decode cX3_apart 76 = .ok (.iload 4, 2) := by decide +kernel
theorem dX3_apart_78 : decode cX3_apart 78 = .ok (.iload_n 3, 1) := by decide +kernel
theorem dX3_apart_79 : decode cX3_apart 79 = .ok (.isub, 1) := by decide +kernel
theorem dX3_apart_80 : decode cX3_apart 80 = .ok (.invokestatic 61, 3) := by decide +kernel
theorem dX3_apart_83 : decode cX3_apart 83 = .ok (.ireturn, 1) := by decide +kernel
theorem dX3_fairestSet_0 : decode cX3_fairestSet 0 = .ok (.sipush 1000, 3) := by decide +kernel
theorem dX3_fairestSet_3 : decode cX3_fairestSet 3 = .ok (.istore_n 3, 1) := by decide +kernel
theorem dX3_fairestSet_4 : decode cX3_fairestSet 4 = .ok (.bipush (-9), 2) := by decide +kernel
theorem dX3_fairestSet_6 : decode cX3_fairestSet 6 = .ok (.istore 4, 2) := by decide +kernel
theorem dX3_fairestSet_8 : decode cX3_fairestSet 8 = .ok (.iconst 1, 1) := by decide +kernel
theorem dX3_fairestSet_9 : decode cX3_fairestSet 9 = .ok (.istore 5, 2) := by decide +kernel
theorem dX3_fairestSet_11 : decode cX3_fairestSet 11 = .ok (.iload 5, 2) := by decide +kernel
theorem dX3_fairestSet_13 : decode cX3_fairestSet 13 = .ok (.aload_n 0, 1) := by decide +kernel
theorem dX3_fairestSet_14 : decode cX3_fairestSet 14 = .ok (.getfield 9, 3) := by decide +kernel
theorem dX3_fairestSet_17 : decode cX3_fairestSet 17 = .ok (.invokevirtual 64, 3) := by decide +kernel
theorem dX3_fairestSet_20 : decode cX3_fairestSet 20 = .ok (.if_icmp .gt 40, 3) := by decide +kernel
theorem dX3_fairestSet_23 : decode cX3_fairestSet 23 = .ok (.iload 5, 2) := by decide +kernel
theorem dX3_fairestSet_25 : decode cX3_fairestSet 25 = .ok (.invokestatic 25, 3) := by decide +kernel
theorem dX3_fairestSet_28 : decode cX3_fairestSet 28 = .ok (.iload_n 2, 1) := by decide +kernel
theorem dX3_fairestSet_29 : decode cX3_fairestSet 29 = .ok (.if_icmp .ne 25, 3) := by decide +kernel
theorem dX3_fairestSet_32 : decode cX3_fairestSet 32 = .ok (.aload_n 0, 1) := by decide +kernel
theorem dX3_fairestSet_33 : decode cX3_fairestSet 33 = .ok (.iload 5, 2) := by decide +kernel
theorem dX3_fairestSet_35 : decode cX3_fairestSet 35 = .ok (.iload_n 1, 1) := by decide +kernel
theorem dX3_fairestSet_36 : decode cX3_fairestSet 36 = .ok (.invokevirtual 67, 3) := by decide +kernel
theorem dX3_fairestSet_39 : decode cX3_fairestSet 39 = .ok (.istore 6, 2) := by decide +kernel
theorem dX3_fairestSet_41 : decode cX3_fairestSet 41 = .ok (.iload 6, 2) := by decide +kernel
theorem dX3_fairestSet_43 : decode cX3_fairestSet 43 = .ok (.iload_n 3, 1) := by decide +kernel
theorem dX3_fairestSet_44 : decode cX3_fairestSet 44 = .ok (.if_icmp .ge 10, 3) := by decide +kernel
theorem dX3_fairestSet_47 : decode cX3_fairestSet 47 = .ok (.iload 6, 2) := by decide +kernel
theorem dX3_fairestSet_49 : decode cX3_fairestSet 49 = .ok (.istore_n 3, 1) := by decide +kernel
theorem dX3_fairestSet_50 : decode cX3_fairestSet 50 = .ok (.iload 5, 2) := by decide +kernel
theorem dX3_fairestSet_52 : decode cX3_fairestSet 52 = .ok (.istore 4, 2) := by decide +kernel
theorem dX3_fairestSet_54 : decode cX3_fairestSet 54 = .ok (.iinc 5 1, 3) := by decide +kernel
theorem dX3_fairestSet_57 : decode cX3_fairestSet 57 = .ok (.goto (-46), 3) := by decide +kernel
theorem dX3_fairestSet_60 : decode cX3_fairestSet 60 = .ok (.iload 4, 2) := by decide +kernel
theorem dX3_fairestSet_62 : decode cX3_fairestSet 62 = .ok (.ireturn, 1) := by decide +kernel
theorem dX3_followed_0 : decode cX3_followed 0 = .ok (.iconst 0, 1) := by decide +kernel
theorem dX3_followed_1 : decode cX3_followed 1 = .ok (.istore_n 2, 1) := by decide +kernel
theorem dX3_followed_2 : decode cX3_followed 2 = .ok (.iconst 0, 1) := by decide +kernel
theorem dX3_followed_3 : decode cX3_followed 3 = .ok (.istore_n 3, 1) := by decide +kernel
theorem dX3_followed_4 : decode cX3_followed 4 = .ok (.iload_n 3, 1) := by decide +kernel
theorem dX3_followed_5 : decode cX3_followed 5 = .ok (.aload_n 0, 1) := by decide +kernel
theorem dX3_followed_6 : decode cX3_followed 6 = .ok (.getfield 9, 3) := by decide +kernel
theorem dX3_followed_9 : decode cX3_followed 9 = .ok (.getfield 31, 3) := by decide +kernel
theorem dX3_followed_12 : decode cX3_followed 12 = .ok (.if_icmp .ge 28, 3) := by decide +kernel
theorem dX3_followed_15 : decode cX3_followed 15 = .ok (.iload_n 3, 1) := by decide +kernel
theorem dX3_followed_16 : decode cX3_followed 16 = .ok (.iload_n 1, 1) := by decide +kernel
theorem dX3_followed_17 : decode cX3_followed 17 = .ok (.if_icmp .ge 23, 3) := by decide +kernel
theorem dX3_followed_20 : decode cX3_followed 20 = .ok (.iload_n 2, 1) := by decide +kernel
theorem dX3_followed_21 : decode cX3_followed 21 = .ok (.aload_n 0, 1) := by decide +kernel
theorem dX3_followed_22 : decode cX3_followed 22 = .ok (.getfield 9, 3) := by decide +kernel
theorem dX3_followed_25 : decode cX3_followed 25 = .ok (.getfield 15, 3) := by decide +kernel
theorem dX3_followed_28 : decode cX3_followed 28 = .ok (.iload_n 3, 1) := by decide +kernel
theorem dX3_followed_29 : decode cX3_followed 29 = .ok (.invokestatic 21, 3) := by decide +kernel
theorem dX3_followed_32 : decode cX3_followed 32 = .ok (.ior, 1) := by decide +kernel
theorem dX3_followed_33 : decode cX3_followed 33 = .ok (.istore_n 2, 1) := by decide +kernel
theorem dX3_followed_34 : decode cX3_followed 34 = .ok (.iinc 3 1, 3) := by decide +kernel
theorem dX3_followed_37 : decode cX3_followed 37 = .ok (.goto (-33), 3) := by decide +kernel
theorem dX3_followed_40 : decode cX3_followed 40 = .ok (.iload_n 2, 1) := by decide +kernel
theorem dX3_followed_41 : decode cX3_followed 41 = .ok (.ireturn, 1) := by decide +kernel
theorem dX3_testsToFollow_0 : decode cX3_testsToFollow 0 = .ok (.aload_n 0, 1) := by decide +kernel
theorem dX3_testsToFollow_1 : decode cX3_testsToFollow 1 = .ok (.aload_n 0, 1) := by decide +kernel
theorem dX3_testsToFollow_2 : decode cX3_testsToFollow 2 = .ok (.getfield 9, 3) := by decide +kernel
theorem dX3_testsToFollow_5 : decode cX3_testsToFollow 5 = .ok (.getfield 31, 3) := by decide +kernel
theorem dX3_testsToFollow_8 : decode cX3_testsToFollow 8 = .ok (.invokevirtual 70, 3) := by decide +kernel
theorem dX3_testsToFollow_11 : decode cX3_testsToFollow 11 = .ok (.istore_n 1, 1) := by decide +kernel
theorem dX3_testsToFollow_12 : decode cX3_testsToFollow 12 = .ok (.iconst 0, 1) := by decide +kernel
theorem dX3_testsToFollow_13 : decode cX3_testsToFollow 13 = .ok (.istore_n 2, 1) := by decide +kernel
theorem dX3_testsToFollow_14 : decode cX3_testsToFollow 14 = .ok (.iload_n 2, 1) := by decide +kernel
theorem dX3_testsToFollow_15 : decode cX3_testsToFollow 15 = .ok (.aload_n 0, 1) := by decide +kernel
theorem dX3_testsToFollow_16 : decode cX3_testsToFollow 16 = .ok (.getfield 9, 3) := by decide +kernel
theorem dX3_testsToFollow_19 : decode cX3_testsToFollow 19 = .ok (.getfield 31, 3) := by decide +kernel
theorem dX3_testsToFollow_22 : decode cX3_testsToFollow 22 = .ok (.if_icmp .ge 20, 3) := by decide +kernel
theorem dX3_testsToFollow_25 : decode cX3_testsToFollow 25 = .ok (.aload_n 0, 1) := by decide +kernel
theorem dX3_testsToFollow_26 : decode cX3_testsToFollow 26 = .ok (.iload_n 2, 1) := by decide +kernel
theorem dX3_testsToFollow_27 : decode cX3_testsToFollow 27 = .ok (.invokevirtual 70, 3) := by decide +kernel
theorem dX3_testsToFollow_30 : decode cX3_testsToFollow 30 = .ok (.iload_n 1, 1) := by decide +kernel
theorem dX3_testsToFollow_31 : decode cX3_testsToFollow 31 = .ok (.if_icmp .ne 5, 3) := by decide +kernel
theorem dX3_testsToFollow_34 : decode cX3_testsToFollow 34 = .ok (.iload_n 2, 1) := by decide +kernel
theorem dX3_testsToFollow_35 : decode cX3_testsToFollow 35 = .ok (.ireturn, 1) := by decide +kernel
theorem dX3_testsToFollow_36 : decode cX3_testsToFollow 36 = .ok (.iinc 2 1, 3) := by decide +kernel
theorem dX3_testsToFollow_39 : decode cX3_testsToFollow 39 = .ok (.goto (-25), 3) := by decide +kernel
theorem dX3_testsToFollow_42 : decode cX3_testsToFollow 42 = .ok (.aload_n 0, 1) := by decide +kernel
theorem dX3_testsToFollow_43 : decode cX3_testsToFollow 43 = .ok (.getfield 9, 3) := by decide +kernel
theorem dX3_testsToFollow_46 : decode cX3_testsToFollow 46 = .ok (.getfield 31, 3) := by decide +kernel
theorem dX3_testsToFollow_49 : decode cX3_testsToFollow 49 = .ok (.ireturn, 1) := by decide +kernel
theorem dX3_nearestSet_0 : decode cX3_nearestSet 0 = .ok (.sipush 1000, 3) := by decide +kernel
theorem dX3_nearestSet_3 : decode cX3_nearestSet 3 = .ok (.istore 4, 2) := by decide +kernel
theorem dX3_nearestSet_5 : decode cX3_nearestSet 5 = .ok (.bipush (-9), 2) := by decide +kernel
theorem dX3_nearestSet_7 : decode cX3_nearestSet 7 = .ok (.istore 5, 2) := by decide +kernel
theorem dX3_nearestSet_9 : decode cX3_nearestSet 9 = .ok (.iconst 1, 1) := by decide +kernel
theorem dX3_nearestSet_10 : decode cX3_nearestSet 10 = .ok (.istore 6, 2) := by decide +kernel
theorem dX3_nearestSet_12 : decode cX3_nearestSet 12 = .ok (.iload 6, 2) := by decide +kernel
theorem dX3_nearestSet_14 : decode cX3_nearestSet 14 = .ok (.aload_n 0, 1) := by decide +kernel
theorem dX3_nearestSet_15 : decode cX3_nearestSet 15 = .ok (.getfield 9, 3) := by decide +kernel
theorem dX3_nearestSet_18 : decode cX3_nearestSet 18 = .ok (.invokevirtual 39, 3) := by decide +kernel
theorem dX3_nearestSet_21 : decode cX3_nearestSet 21 = .ok (.if_icmp .gt 75, 3) := by decide +kernel
theorem dX3_nearestSet_24 : decode cX3_nearestSet 24 = .ok (.aload_n 0, 1) := by decide +kernel
theorem dX3_nearestSet_25 : decode cX3_nearestSet 25 = .ok (.getfield 9, 3) := by decide +kernel
theorem dX3_nearestSet_28 : decode cX3_nearestSet 28 = .ok (.iload 6, 2) := by decide +kernel
theorem dX3_nearestSet_30 : decode cX3_nearestSet 30 = .ok (.invokevirtual 43, 3) := by decide +kernel
theorem dX3_nearestSet_33 : decode cX3_nearestSet 33 = .ok (.iload_n 1, 1) := by decide +kernel
theorem dX3_nearestSet_34 : decode cX3_nearestSet 34 = .ok (.iand, 1) := by decide +kernel
theorem dX3_nearestSet_35 : decode cX3_nearestSet 35 = .ok (.iload_n 1, 1) := by decide +kernel
theorem dX3_nearestSet_36 : decode cX3_nearestSet 36 = .ok (.if_icmp .ne 54, 3) := by decide +kernel
theorem dX3_nearestSet_39 : decode cX3_nearestSet 39 = .ok (.aload_n 0, 1) := by decide +kernel
theorem dX3_nearestSet_40 : decode cX3_nearestSet 40 = .ok (.getfield 9, 3) := by decide +kernel
theorem dX3_nearestSet_43 : decode cX3_nearestSet 43 = .ok (.iload 6, 2) := by decide +kernel
theorem dX3_nearestSet_45 : decode cX3_nearestSet 45 = .ok (.invokevirtual 73, 3) := by decide +kernel
theorem dX3_nearestSet_48 : decode cX3_nearestSet 48 = .ok (.iload_n 2, 1) := by decide +kernel
theorem dX3_nearestSet_49 : decode cX3_nearestSet 49 = .ok (.if_icmp .gt 41, 3) := by decide +kernel
theorem dX3_nearestSet_52 : decode cX3_nearestSet 52 = .ok (.aload_n 0, 1) := by decide +kernel
theorem dX3_nearestSet_53 : decode cX3_nearestSet 53 = .ok (.getfield 9, 3) := by decide +kernel
theorem dX3_nearestSet_56 : decode cX3_nearestSet 56 = .ok (.iload 6, 2) := by decide +kernel
theorem dX3_nearestSet_58 : decode cX3_nearestSet 58 = .ok (.aload_n 0, 1) := by decide +kernel
theorem dX3_nearestSet_59 : decode cX3_nearestSet 59 = .ok (.getfield 9, 3) := by decide +kernel
theorem dX3_nearestSet_62 : decode cX3_nearestSet 62 = .ok (.getfield 76, 3) := by decide +kernel
theorem dX3_nearestSet_65 : decode cX3_nearestSet 65 = .ok (.invokevirtual 53, 3) := by decide +kernel
theorem dX3_nearestSet_68 : decode cX3_nearestSet 68 = .ok (.iload_n 3, 1) := by decide +kernel
theorem dX3_nearestSet_69 : decode cX3_nearestSet 69 = .ok (.isub, 1) := by decide +kernel
theorem dX3_nearestSet_70 : decode cX3_nearestSet 70 = .ok (.invokestatic 79, 3) := by decide +kernel
theorem dX3_nearestSet_73 : decode cX3_nearestSet 73 = .ok (.istore 7, 2) := by decide +kernel
theorem dX3_nearestSet_75 : decode cX3_nearestSet 75 = .ok (.iload 7, 2) := by decide +kernel
theorem dX3_nearestSet_77 : decode cX3_nearestSet 77 = .ok (.iload 4, 2) := by decide +kernel
theorem dX3_nearestSet_79 : decode cX3_nearestSet 79 = .ok (.if_icmp .ge 11, 3) := by decide +kernel
theorem dX3_nearestSet_82 : decode cX3_nearestSet 82 = .ok (.iload 7, 2) := by decide +kernel
theorem dX3_nearestSet_84 : decode cX3_nearestSet 84 = .ok (.istore 4, 2) := by decide +kernel
theorem dX3_nearestSet_86 : decode cX3_nearestSet 86 = .ok (.iload 6, 2) := by decide +kernel
theorem dX3_nearestSet_88 : decode cX3_nearestSet 88 = .ok (.istore 5, 2) := by decide +kernel
theorem dX3_nearestSet_90 : decode cX3_nearestSet 90 = .ok (.iinc 6 1, 3) := by decide +kernel
theorem dX3_nearestSet_93 : decode cX3_nearestSet 93 = .ok (.goto (-81), 3) := by decide +kernel
theorem dX3_nearestSet_96 : decode cX3_nearestSet 96 = .ok (.iload 5, 2) := by decide +kernel
theorem dX3_nearestSet_98 : decode cX3_nearestSet 98 = .ok (.ireturn, 1) := by decide +kernel
theorem dX3_waysThrough_0 : decode cX3_waysThrough 0 = .ok (.iconst 0, 1) := by decide +kernel
theorem dX3_waysThrough_1 : decode cX3_waysThrough 1 = .ok (.istore_n 2, 1) := by decide +kernel
theorem dX3_waysThrough_2 : decode cX3_waysThrough 2 = .ok (.iconst 0, 1) := by decide +kernel
theorem dX3_waysThrough_3 : decode cX3_waysThrough 3 = .ok (.istore_n 3, 1) := by decide +kernel
theorem dX3_waysThrough_4 : decode cX3_waysThrough 4 = .ok (.iload_n 3, 1) := by decide +kernel
theorem dX3_waysThrough_5 : decode cX3_waysThrough 5 = .ok (.aload_n 0, 1) := by decide +kernel
theorem dX3_waysThrough_6 : decode cX3_waysThrough 6 = .ok (.getfield 9, 3) := by decide +kernel
theorem dX3_waysThrough_9 : decode cX3_waysThrough 9 = .ok (.getfield 31, 3) := by decide +kernel
theorem dX3_waysThrough_12 : decode cX3_waysThrough 12 = .ok (.if_icmp .ge 34, 3) := by decide +kernel
theorem dX3_waysThrough_15 : decode cX3_waysThrough 15 = .ok (.iload_n 1, 1) := by decide +kernel
theorem dX3_waysThrough_16 : decode cX3_waysThrough 16 = .ok (.ifCond .lt 24, 3) := by decide +kernel
theorem dX3_waysThrough_19 : decode cX3_waysThrough 19 = .ok (.aload_n 0, 1) := by decide +kernel
theorem dX3_waysThrough_20 : decode cX3_waysThrough 20 = .ok (.getfield 9, 3) := by decide +kernel
theorem dX3_waysThrough_23 : decode cX3_waysThrough 23 = .ok (.getfield 15, 3) := by decide +kernel
theorem dX3_waysThrough_26 : decode cX3_waysThrough 26 = .ok (.iload_n 3, 1) := by decide +kernel
theorem dX3_waysThrough_27 : decode cX3_waysThrough 27 = .ok (.invokestatic 21, 3) := by decide +kernel
theorem dX3_waysThrough_30 : decode cX3_waysThrough 30 = .ok (.iload_n 1, 1) := by decide +kernel
theorem dX3_waysThrough_31 : decode cX3_waysThrough 31 = .ok (.invokestatic 49, 3) := by decide +kernel
theorem dX3_waysThrough_34 : decode cX3_waysThrough 34 = .ok (.ifCond .eq 6, 3) := by decide +kernel
theorem dX3_waysThrough_37 : decode cX3_waysThrough 37 = .ok (.iinc 2 1, 3) := by decide +kernel
theorem dX3_waysThrough_40 : decode cX3_waysThrough 40 = .ok (.iinc 3 1, 3) := by decide +kernel
theorem dX3_waysThrough_43 : decode cX3_waysThrough 43 = .ok (.goto (-39), 3) := by decide +kernel
theorem dX3_waysThrough_46 : decode cX3_waysThrough 46 = .ok (.iload_n 2, 1) := by decide +kernel
theorem dX3_waysThrough_47 : decode cX3_waysThrough 47 = .ok (.ireturn, 1) := by decide +kernel
theorem dX3_mostCrowded_0 : decode cX3_mostCrowded 0 = .ok (.iconst (-1), 1) := by decide +kernel
theorem dX3_mostCrowded_1 : decode cX3_mostCrowded 1 = .ok (.istore_n 1, 1) := by decide +kernel
theorem dX3_mostCrowded_2 : decode cX3_mostCrowded 2 = .ok (.bipush (-9), 2) := by decide +kernel
theorem dX3_mostCrowded_4 : decode cX3_mostCrowded 4 = .ok (.istore_n 2, 1) := by decide +kernel
theorem dX3_mostCrowded_5 : decode cX3_mostCrowded 5 = .ok (.iconst 0, 1) := by decide +kernel
theorem dX3_mostCrowded_6 : decode cX3_mostCrowded 6 = .ok (.istore_n 3, 1) := by decide +kernel
theorem dX3_mostCrowded_7 : decode cX3_mostCrowded 7 = .ok (.iload_n 3, 1) := by decide +kernel
theorem dX3_mostCrowded_8 : decode cX3_mostCrowded 8 = .ok (.aload_n 0, 1) := by decide +kernel
theorem dX3_mostCrowded_9 : decode cX3_mostCrowded 9 = .ok (.getfield 9, 3) := by decide +kernel
theorem dX3_mostCrowded_12 : decode cX3_mostCrowded 12 = .ok (.getfield 82, 3) := by decide +kernel
theorem dX3_mostCrowded_15 : decode cX3_mostCrowded 15 = .ok (.if_icmp .ge 27, 3) := by decide +kernel
theorem dX3_mostCrowded_18 : decode cX3_mostCrowded 18 = .ok (.aload_n 0, 1) := by decide +kernel
theorem dX3_mostCrowded_19 : decode cX3_mostCrowded 19 = .ok (.iload_n 3, 1) := by decide +kernel
theorem dX3_mostCrowded_20 : decode cX3_mostCrowded 20 = .ok (.invokevirtual 85, 3) := by decide +kernel
theorem dX3_mostCrowded_23 : decode cX3_mostCrowded 23 = .ok (.istore 4, 2) := by decide +kernel
theorem dX3_mostCrowded_25 : decode cX3_mostCrowded 25 = .ok (.iload 4, 2) := by decide +kernel
theorem dX3_mostCrowded_27 : decode cX3_mostCrowded 27 = .ok (.iload_n 1, 1) := by decide +kernel
theorem dX3_mostCrowded_28 : decode cX3_mostCrowded 28 = .ok (.if_icmp .le 8, 3) := by decide +kernel
theorem dX3_mostCrowded_31 : decode cX3_mostCrowded 31 = .ok (.iload 4, 2) := by decide +kernel
theorem dX3_mostCrowded_33 : decode cX3_mostCrowded 33 = .ok (.istore_n 1, 1) := by decide +kernel
theorem dX3_mostCrowded_34 : decode cX3_mostCrowded 34 = .ok (.iload_n 3, 1) := by decide +kernel
theorem dX3_mostCrowded_35 : decode cX3_mostCrowded 35 = .ok (.istore_n 2, 1) := by decide +kernel
theorem dX3_mostCrowded_36 : decode cX3_mostCrowded 36 = .ok (.iinc 3 1, 3) := by decide +kernel
theorem dX3_mostCrowded_39 : decode cX3_mostCrowded 39 = .ok (.goto (-32), 3) := by decide +kernel
theorem dX3_mostCrowded_42 : decode cX3_mostCrowded 42 = .ok (.iload_n 2, 1) := by decide +kernel
theorem dX3_mostCrowded_43 : decode cX3_mostCrowded 43 = .ok (.ireturn, 1) := by decide +kernel
theorem dX3_hardestHour_0 : decode cX3_hardestHour 0 = .ok (.aload_n 0, 1) := by decide +kernel
theorem dX3_hardestHour_1 : decode cX3_hardestHour 1 = .ok (.getfield 9, 3) := by decide +kernel
theorem dX3_hardestHour_4 : decode cX3_hardestHour 4 = .ok (.getfield 15, 3) := by decide +kernel
theorem dX3_hardestHour_7 : decode cX3_hardestHour 7 = .ok (.iload_n 1, 1) := by decide +kernel
theorem dX3_hardestHour_8 : decode cX3_hardestHour 8 = .ok (.invokestatic 21, 3) := by decide +kernel
theorem dX3_hardestHour_11 : decode cX3_hardestHour 11 = .ok (.istore_n 2, 1) := by decide +kernel
theorem dX3_hardestHour_12 : decode cX3_hardestHour 12 = .ok (.iconst (-1), 1) := by decide +kernel
theorem dX3_hardestHour_13 : decode cX3_hardestHour 13 = .ok (.istore_n 3, 1) := by decide +kernel
theorem dX3_hardestHour_14 : decode cX3_hardestHour 14 = .ok (.iconst 0, 1) := by decide +kernel
theorem dX3_hardestHour_15 : decode cX3_hardestHour 15 = .ok (.istore 4, 2) := by decide +kernel
theorem dX3_hardestHour_17 : decode cX3_hardestHour 17 = .ok (.iconst 0, 1) := by decide +kernel
theorem dX3_hardestHour_18 : decode cX3_hardestHour 18 = .ok (.istore 5, 2) := by decide +kernel
theorem dX3_hardestHour_20 : decode cX3_hardestHour 20 = .ok (.iload 5, 2) := by decide +kernel
theorem dX3_hardestHour_22 : decode cX3_hardestHour 22 = .ok (.bipush 24, 2) := by decide +kernel
theorem dX3_hardestHour_24 : decode cX3_hardestHour 24 = .ok (.if_icmp .ge 34, 3) := by decide +kernel
theorem dX3_hardestHour_27 : decode cX3_hardestHour 27 = .ok (.aload_n 0, 1) := by decide +kernel
theorem dX3_hardestHour_28 : decode cX3_hardestHour 28 = .ok (.getfield 9, 3) := by decide +kernel
theorem dX3_hardestHour_31 : decode cX3_hardestHour 31 = .ok (.iload_n 2, 1) := by decide +kernel
theorem dX3_hardestHour_32 : decode cX3_hardestHour 32 = .ok (.iload 5, 2) := by decide +kernel
theorem dX3_hardestHour_34 : decode cX3_hardestHour 34 = .ok (.invokevirtual 53, 3) := by decide +kernel
theorem dX3_hardestHour_37 : decode cX3_hardestHour 37 = .ok (.istore 6, 2) := by decide +kernel
theorem dX3_hardestHour_39 : decode cX3_hardestHour 39 = .ok (.iload 6, 2) := by decide +kernel
theorem dX3_hardestHour_41 : decode cX3_hardestHour 41 = .ok (.iload_n 3, 1) := by decide +kernel
theorem dX3_hardestHour_42 : decode cX3_hardestHour 42 = .ok (.if_icmp .le 10, 3) := by decide +kernel
theorem dX3_hardestHour_45 : decode cX3_hardestHour 45 = .ok (.iload 6, 2) := by decide +kernel
theorem dX3_hardestHour_47 : decode cX3_hardestHour 47 = .ok (.istore_n 3, 1) := by decide +kernel
theorem dX3_hardestHour_48 : decode cX3_hardestHour 48 = .ok (.iload 5, 2) := by decide +kernel
theorem dX3_hardestHour_50 : decode cX3_hardestHour 50 = .ok (.istore 4, 2) := by decide +kernel
theorem dX3_hardestHour_52 : decode cX3_hardestHour 52 = .ok (.iinc 5 1, 3) := by decide +kernel
theorem dX3_hardestHour_55 : decode cX3_hardestHour 55 = .ok (.goto (-35), 3) := by decide +kernel
theorem dX3_hardestHour_58 : decode cX3_hardestHour 58 = .ok (.iload 4, 2) := by decide +kernel
theorem dX3_hardestHour_60 : decode cX3_hardestHour 60 = .ok (.ireturn, 1) := by decide +kernel
theorem dX3_longestWay_0 : decode cX3_longestWay 0 = .ok (.iconst (-1), 1) := by decide +kernel
theorem dX3_longestWay_1 : decode cX3_longestWay 1 = .ok (.istore_n 1, 1) := by decide +kernel
theorem dX3_longestWay_2 : decode cX3_longestWay 2 = .ok (.bipush (-9), 2) := by decide +kernel
theorem dX3_longestWay_4 : decode cX3_longestWay 4 = .ok (.istore_n 2, 1) := by decide +kernel
theorem dX3_longestWay_5 : decode cX3_longestWay 5 = .ok (.iconst 0, 1) := by decide +kernel
theorem dX3_longestWay_6 : decode cX3_longestWay 6 = .ok (.istore_n 3, 1) := by decide +kernel
theorem dX3_longestWay_7 : decode cX3_longestWay 7 = .ok (.iload_n 3, 1) := by decide +kernel
theorem dX3_longestWay_8 : decode cX3_longestWay 8 = .ok (.aload_n 0, 1) := by decide +kernel
theorem dX3_longestWay_9 : decode cX3_longestWay 9 = .ok (.getfield 9, 3) := by decide +kernel
theorem dX3_longestWay_12 : decode cX3_longestWay 12 = .ok (.getfield 31, 3) := by decide +kernel
theorem dX3_longestWay_15 : decode cX3_longestWay 15 = .ok (.if_icmp .ge 40, 3) := by decide +kernel
theorem dX3_longestWay_18 : decode cX3_longestWay 18 = .ok (.aload_n 0, 1) := by decide +kernel
theorem dX3_longestWay_19 : decode cX3_longestWay 19 = .ok (.getfield 9, 3) := by decide +kernel
theorem dX3_longestWay_22 : decode cX3_longestWay 22 = .ok (.aload_n 0, 1) := by decide +kernel
theorem dX3_longestWay_23 : decode cX3_longestWay 23 = .ok (.getfield 9, 3) := by decide +kernel
theorem dX3_longestWay_26 : decode cX3_longestWay 26 = .ok (.getfield 15, 3) := by decide +kernel
theorem dX3_longestWay_29 : decode cX3_longestWay 29 = .ok (.iload_n 3, 1) := by decide +kernel
theorem dX3_longestWay_30 : decode cX3_longestWay 30 = .ok (.invokestatic 21, 3) := by decide +kernel
theorem dX3_longestWay_33 : decode cX3_longestWay 33 = .ok (.invokevirtual 73, 3) := by decide +kernel
theorem dX3_longestWay_36 : decode cX3_longestWay 36 = .ok (.istore 4, 2) := by decide +kernel
theorem dX3_longestWay_38 : decode cX3_longestWay 38 = .ok (.iload 4, 2) := by decide +kernel
theorem dX3_longestWay_40 : decode cX3_longestWay 40 = .ok (.iload_n 1, 1) := by decide +kernel
theorem dX3_longestWay_41 : decode cX3_longestWay 41 = .ok (.if_icmp .le 8, 3) := by decide +kernel
theorem dX3_longestWay_44 : decode cX3_longestWay 44 = .ok (.iload 4, 2) := by decide +kernel
theorem dX3_longestWay_46 : decode cX3_longestWay 46 = .ok (.istore_n 1, 1) := by decide +kernel
theorem dX3_longestWay_47 : decode cX3_longestWay 47 = .ok (.iload_n 3, 1) := by decide +kernel
theorem dX3_longestWay_48 : decode cX3_longestWay 48 = .ok (.istore_n 2, 1) := by decide +kernel
theorem dX3_longestWay_49 : decode cX3_longestWay 49 = .ok (.iinc 3 1, 3) := by decide +kernel
theorem dX3_longestWay_52 : decode cX3_longestWay 52 = .ok (.goto (-45), 3) := by decide +kernel
theorem dX3_longestWay_55 : decode cX3_longestWay 55 = .ok (.iload_n 2, 1) := by decide +kernel
theorem dX3_longestWay_56 : decode cX3_longestWay 56 = .ok (.ireturn, 1) := by decide +kernel
theorem dX4_init_0 : decode cX4_init 0 = .ok (.aload_n 0, 1) := by decide +kernel
theorem dX4_init_1 : decode cX4_init 1 = .ok (.invokespecial 3, 3) := by decide +kernel
theorem dX4_init_4 : decode cX4_init 4 = .ok (.aload_n 0, 1) := by decide +kernel
theorem dX4_init_5 : decode cX4_init 5 = .ok (.iconst 0, 1) := by decide +kernel
theorem dX4_init_6 : decode cX4_init 6 = .ok (.putfield 9, 3) := by decide +kernel
theorem dX4_init_9 : decode cX4_init 9 = .ok (.aload_n 0, 1) := by decide +kernel
theorem dX4_init_10 : decode cX4_init 10 = .ok (.iconst 0, 1) := by decide +kernel
theorem dX4_init_11 : decode cX4_init 11 = .ok (.putfield 15, 3) := by decide +kernel
theorem dX4_init_14 : decode cX4_init 14 = .ok (.aload_n 0, 1) := by decide +kernel
theorem dX4_init_15 : decode cX4_init 15 = .ok (.bipush 72, 2) := by decide +kernel
theorem dX4_init_17 : decode cX4_init 17 = .ok (.newarray .int, 2) := by decide +kernel
theorem dX4_init_19 : decode cX4_init 19 = .ok (.putfield 18, 3) := by decide +kernel
theorem dX4_init_22 : decode cX4_init 22 = .ok (.return_, 1) := by decide +kernel
theorem dX4_hold_0 : decode cX4_hold 0 = .ok (.aload_n 0, 1) := by decide +kernel
theorem dX4_hold_1 : decode cX4_hold 1 = .ok (.getfield 15, 3) := by decide +kernel
theorem dX4_hold_4 : decode cX4_hold 4 = .ok (.bipush 8, 2) := by decide +kernel
theorem dX4_hold_6 : decode cX4_hold 6 = .ok (.imul, 1) := by decide +kernel
theorem dX4_hold_7 : decode cX4_hold 7 = .ok (.istore_n 2, 1) := by decide +kernel
theorem dX4_hold_8 : decode cX4_hold 8 = .ok (.aload_n 0, 1) := by decide +kernel
theorem dX4_hold_9 : decode cX4_hold 9 = .ok (.getfield 18, 3) := by decide +kernel
theorem dX4_hold_12 : decode cX4_hold 12 = .ok (.iload_n 2, 1) := by decide +kernel
theorem dX4_hold_13 : decode cX4_hold 13 = .ok (.aload_n 1, 1) := by decide +kernel
theorem dX4_hold_14 : decode cX4_hold 14 = .ok (.getfield 22, 3) := by decide +kernel
theorem dX4_hold_17 : decode cX4_hold 17 = .ok (.invokestatic 27, 3) := by decide +kernel
theorem dX4_hold_20 : decode cX4_hold 20 = .ok (.aload_n 0, 1) := by decide +kernel
theorem dX4_hold_21 : decode cX4_hold 21 = .ok (.getfield 18, 3) := by decide +kernel
theorem dX4_hold_24 : decode cX4_hold 24 = .ok (.iload_n 2, 1) := by decide +kernel
theorem dX4_hold_25 : decode cX4_hold 25 = .ok (.iconst 1, 1) := by decide +kernel
theorem dX4_hold_26 : decode cX4_hold 26 = .ok (.iadd, 1) := by decide +kernel
theorem dX4_hold_27 : decode cX4_hold 27 = .ok (.aload_n 1, 1) := by decide +kernel
theorem dX4_hold_28 : decode cX4_hold 28 = .ok (.getfield 31, 3) := by decide +kernel
theorem dX4_hold_31 : decode cX4_hold 31 = .ok (.invokestatic 27, 3) := by decide +kernel
theorem dX4_hold_34 : decode cX4_hold 34 = .ok (.aload_n 0, 1) := by decide +kernel
theorem dX4_hold_35 : decode cX4_hold 35 = .ok (.getfield 18, 3) := by decide +kernel
theorem dX4_hold_38 : decode cX4_hold 38 = .ok (.iload_n 2, 1) := by decide +kernel
theorem dX4_hold_39 : decode cX4_hold 39 = .ok (.iconst 2, 1) := by decide +kernel
theorem dX4_hold_40 : decode cX4_hold 40 = .ok (.iadd, 1) := by decide +kernel
theorem dX4_hold_41 : decode cX4_hold 41 = .ok (.aload_n 1, 1) := by decide +kernel
theorem dX4_hold_42 : decode cX4_hold 42 = .ok (.getfield 34, 3) := by decide +kernel
theorem dX4_hold_45 : decode cX4_hold 45 = .ok (.invokestatic 27, 3) := by decide +kernel
theorem dX4_hold_48 : decode cX4_hold 48 = .ok (.iconst 0, 1) := by decide +kernel
theorem dX4_hold_49 : decode cX4_hold 49 = .ok (.istore_n 3, 1) := by decide +kernel
theorem dX4_hold_50 : decode cX4_hold 50 = .ok (.iload_n 3, 1) := by decide +kernel
theorem dX4_hold_51 : decode cX4_hold 51 = .ok (.iconst 5, 1) := by decide +kernel
theorem dX4_hold_52 : decode cX4_hold 52 = .ok (.if_icmp .ge 29, 3) := by decide +kernel
theorem dX4_hold_55 : decode cX4_hold 55 = .ok (.aload_n 0, 1) := by decide +kernel
theorem dX4_hold_56 : decode cX4_hold 56 = .ok (.getfield 18, 3) := by decide +kernel
theorem dX4_hold_59 : decode cX4_hold 59 = .ok (.iload_n 2, 1) := by decide +kernel
theorem dX4_hold_60 : decode cX4_hold 60 = .ok (.iconst 3, 1) := by decide +kernel
theorem dX4_hold_61 : decode cX4_hold 61 = .ok (.iadd, 1) := by decide +kernel
theorem dX4_hold_62 : decode cX4_hold 62 = .ok (.iload_n 3, 1) := by decide +kernel
theorem dX4_hold_63 : decode cX4_hold 63 = .ok (.iadd, 1) := by decide +kernel
theorem dX4_hold_64 : decode cX4_hold 64 = .ok (.aload_n 1, 1) := by decide +kernel
theorem dX4_hold_65 : decode cX4_hold 65 = .ok (.getfield 37, 3) := by decide +kernel
theorem dX4_hold_68 : decode cX4_hold 68 = .ok (.iload_n 3, 1) := by decide +kernel
theorem dX4_hold_69 : decode cX4_hold 69 = .ok (.invokestatic 40, 3) := by decide +kernel
theorem dX4_hold_72 : decode cX4_hold 72 = .ok (.invokestatic 27, 3) := by decide +kernel
theorem dX4_hold_75 : decode cX4_hold 75 = .ok (.iinc 3 1, 3) := by decide +kernel
theorem dX4_hold_78 : decode cX4_hold 78 = .ok (.goto (-28), 3) := by decide +kernel
theorem dX4_hold_81 : decode cX4_hold 81 = .ok (.return_, 1) := by decide +kernel
theorem dX4_keep_0 : decode cX4_keep 0 = .ok (.aload_n 0, 1) := by decide +kernel
theorem dX4_keep_1 : decode cX4_keep 1 = .ok (.aload_n 0, 1) := by decide +kernel
theorem dX4_keep_2 : decode cX4_keep 2 = .ok (.getfield 15, 3) := by decide +kernel
theorem dX4_keep_5 : decode cX4_keep 5 = .ok (.iconst 1, 1) := by decide +kernel
theorem dX4_keep_6 : decode cX4_keep 6 = .ok (.iadd, 1) := by decide +kernel
theorem dX4_keep_7 : decode cX4_keep 7 = .ok (.bipush 9, 2) := by decide +kernel
theorem dX4_keep_9 : decode cX4_keep 9 = .ok (.irem, 1) := by decide +kernel
theorem dX4_keep_10 : decode cX4_keep 10 = .ok (.putfield 15, 3) := by decide +kernel
theorem dX4_keep_13 : decode cX4_keep 13 = .ok (.aload_n 0, 1) := by decide +kernel
theorem dX4_keep_14 : decode cX4_keep 14 = .ok (.aload_n 0, 1) := by decide +kernel
theorem dX4_keep_15 : decode cX4_keep 15 = .ok (.getfield 9, 3) := by decide +kernel
theorem dX4_keep_18 : decode cX4_keep 18 = .ok (.iconst 1, 1) := by decide +kernel
theorem dX4_keep_19 : decode cX4_keep 19 = .ok (.iadd, 1) := by decide +kernel
theorem dX4_keep_20 : decode cX4_keep 20 = .ok (.bipush 8, 2) := by decide +kernel
theorem dX4_keep_22 : decode cX4_keep 22 = .ok (.invokestatic 44, 3) := by decide +kernel
theorem dX4_keep_25 : decode cX4_keep 25 = .ok (.putfield 9, 3) := by decide +kernel
theorem dX4_keep_28 : decode cX4_keep 28 = .ok (.return_, 1) := by decide +kernel
theorem dX4_takeBack_0 : decode cX4_takeBack 0 = .ok (.aload_n 0, 1) := by decide +kernel
theorem dX4_takeBack_1 : decode cX4_takeBack 1 = .ok (.aload_n 0, 1) := by decide +kernel
theorem dX4_takeBack_2 : decode cX4_takeBack 2 = .ok (.getfield 15, 3) := by decide +kernel
theorem dX4_takeBack_5 : decode cX4_takeBack 5 = .ok (.bipush 9, 2) := by decide +kernel
theorem dX4_takeBack_7 : decode cX4_takeBack 7 = .ok (.iadd, 1) := by decide +kernel
theorem dX4_takeBack_8 : decode cX4_takeBack 8 = .ok (.iconst 1, 1) := by decide +kernel
theorem dX4_takeBack_9 : decode cX4_takeBack 9 = .ok (.isub, 1) := by decide +kernel
theorem dX4_takeBack_10 : decode cX4_takeBack 10 = .ok (.bipush 9, 2) := by decide +kernel
theorem dX4_takeBack_12 : decode cX4_takeBack 12 = .ok (.irem, 1) := by decide +kernel
theorem dX4_takeBack_13 : decode cX4_takeBack 13 = .ok (.putfield 15, 3) := by decide +kernel
theorem dX4_takeBack_16 : decode cX4_takeBack 16 = .ok (.aload_n 0, 1) := by decide +kernel
theorem dX4_takeBack_17 : decode cX4_takeBack 17 = .ok (.dup, 1) := by decide +kernel
theorem dX4_takeBack_18 : decode cX4_takeBack 18 = .ok (.getfield 9, 3) := by decide +kernel
theorem dX4_takeBack_21 : decode cX4_takeBack 21 = .ok (.iconst 1, 1) := by decide +kernel
theorem dX4_takeBack_22 : decode cX4_takeBack 22 = .ok (.isub, 1) := by decide +kernel
theorem dX4_takeBack_23 : decode cX4_takeBack 23 = .ok (.putfield 9, 3) := by decide +kernel
theorem dX4_takeBack_26 : decode cX4_takeBack 26 = .ok (.aload_n 0, 1) := by decide +kernel
theorem dX4_takeBack_27 : decode cX4_takeBack 27 = .ok (.getfield 15, 3) := by decide +kernel
theorem dX4_takeBack_30 : decode cX4_takeBack 30 = .ok (.bipush 8, 2) := by decide +kernel
theorem dX4_takeBack_32 : decode cX4_takeBack 32 = .ok (.imul, 1) := by decide +kernel
theorem dX4_takeBack_33 : decode cX4_takeBack 33 = .ok (.istore_n 2, 1) := by decide +kernel
theorem dX4_takeBack_34 : decode cX4_takeBack 34 = .ok (.aload_n 1, 1) := by decide +kernel
theorem dX4_takeBack_35 : decode cX4_takeBack 35 = .ok (.aload_n 0, 1) := by decide +kernel
theorem dX4_takeBack_36 : decode cX4_takeBack 36 = .ok (.getfield 18, 3) := by decide +kernel
theorem dX4_takeBack_39 : decode cX4_takeBack 39 = .ok (.iload_n 2, 1) := by decide +kernel
theorem dX4_takeBack_40 : decode cX4_takeBack 40 = .ok (.invokestatic 40, 3) := by decide +kernel
theorem dX4_takeBack_43 : decode cX4_takeBack 43 = .ok (.putfield 22, 3) := by decide +kernel
theorem dX4_takeBack_46 : decode cX4_takeBack 46 = .ok (.aload_n 1, 1) := by decide +kernel
theorem dX4_takeBack_47 : decode cX4_takeBack 47 = .ok (.aload_n 0, 1) := by decide +kernel
theorem dX4_takeBack_48 : decode cX4_takeBack 48 = .ok (.getfield 18, 3) := by decide +kernel
theorem dX4_takeBack_51 : decode cX4_takeBack 51 = .ok (.iload_n 2, 1) := by decide +kernel
theorem dX4_takeBack_52 : decode cX4_takeBack 52 = .ok (.iconst 1, 1) := by decide +kernel
theorem dX4_takeBack_53 : decode cX4_takeBack 53 = .ok (.iadd, 1) := by decide +kernel
theorem dX4_takeBack_54 : decode cX4_takeBack 54 = .ok (.invokestatic 40, 3) := by decide +kernel
theorem dX4_takeBack_57 : decode cX4_takeBack 57 = .ok (.putfield 31, 3) := by decide +kernel
theorem dX4_takeBack_60 : decode cX4_takeBack 60 = .ok (.aload_n 1, 1) := by decide +kernel
theorem dX4_takeBack_61 : decode cX4_takeBack 61 = .ok (.aload_n 0, 1) := by decide +kernel
theorem dX4_takeBack_62 : decode cX4_takeBack 62 = .ok (.getfield 18, 3) := by decide +kernel
theorem dX4_takeBack_65 : decode cX4_takeBack 65 = .ok (.iload_n 2, 1) := by decide +kernel
theorem dX4_takeBack_66 : decode cX4_takeBack 66 = .ok (.iconst 2, 1) := by decide +kernel
theorem dX4_takeBack_67 : decode cX4_takeBack 67 = .ok (.iadd, 1) := by decide +kernel
theorem dX4_takeBack_68 : decode cX4_takeBack 68 = .ok (.invokestatic 40, 3) := by decide +kernel
theorem dX4_takeBack_71 : decode cX4_takeBack 71 = .ok (.putfield 34, 3) := by decide +kernel
theorem dX4_takeBack_74 : decode cX4_takeBack 74 = .ok (.iconst 0, 1) := by decide +kernel
theorem dX4_takeBack_75 : decode cX4_takeBack 75 = .ok (.istore_n 3, 1) := by decide +kernel
theorem dX4_takeBack_76 : decode cX4_takeBack 76 = .ok (.iload_n 3, 1) := by decide +kernel
theorem dX4_takeBack_77 : decode cX4_takeBack 77 = .ok (.iconst 5, 1) := by decide +kernel
theorem dX4_takeBack_78 : decode cX4_takeBack 78 = .ok (.if_icmp .ge 29, 3) := by decide +kernel
theorem dX4_takeBack_81 : decode cX4_takeBack 81 = .ok (.aload_n 1, 1) := by decide +kernel
theorem dX4_takeBack_82 : decode cX4_takeBack 82 = .ok (.getfield 37, 3) := by decide +kernel
theorem dX4_takeBack_85 : decode cX4_takeBack 85 = .ok (.iload_n 3, 1) := by decide +kernel
theorem dX4_takeBack_86 : decode cX4_takeBack 86 = .ok (.aload_n 0, 1) := by decide +kernel
theorem dX4_takeBack_87 : decode cX4_takeBack 87 = .ok (.getfield 18, 3) := by decide +kernel
theorem dX4_takeBack_90 : decode cX4_takeBack 90 = .ok (.iload_n 2, 1) := by decide +kernel
theorem dX4_takeBack_91 : decode cX4_takeBack 91 = .ok (.iconst 3, 1) := by decide +kernel
theorem dX4_takeBack_92 : decode cX4_takeBack 92 = .ok (.iadd, 1) := by decide +kernel
theorem dX4_takeBack_93 : decode cX4_takeBack 93 = .ok (.iload_n 3, 1) := by decide +kernel
theorem dX4_takeBack_94 : decode cX4_takeBack 94 = .ok (.iadd, 1) := by decide +kernel
theorem dX4_takeBack_95 : decode cX4_takeBack 95 = .ok (.invokestatic 40, 3) := by decide +kernel
theorem dX4_takeBack_98 : decode cX4_takeBack 98 = .ok (.invokestatic 27, 3) := by decide +kernel
theorem dX4_takeBack_101 : decode cX4_takeBack 101 = .ok (.iinc 3 1, 3) := by decide +kernel
theorem dX4_takeBack_104 : decode cX4_takeBack 104 = .ok (.goto (-28), 3) := by decide +kernel
theorem dX4_takeBack_107 : decode cX4_takeBack 107 = .ok (.aload_n 0, 1) := by decide +kernel
theorem dX4_takeBack_108 : decode cX4_takeBack 108 = .ok (.getfield 9, 3) := by decide +kernel
theorem dX4_takeBack_111 : decode cX4_takeBack 111 = .ok (.ireturn, 1) := by decide +kernel
theorem dX5_init_0 : decode cX5_init 0 = .ok (.aload_n 0, 1) := by decide +kernel
theorem dX5_init_1 : decode cX5_init 1 = .ok (.invokespecial 3, 3) := by decide +kernel
theorem dX5_init_4 : decode cX5_init 4 = .ok (.aload_n 0, 1) := by decide +kernel
theorem dX5_init_5 : decode cX5_init 5 = .ok (.aload_n 1, 1) := by decide +kernel
theorem dX5_init_6 : decode cX5_init 6 = .ok (.putfield 9, 3) := by decide +kernel
theorem dX5_init_9 : decode cX5_init 9 = .ok (.aload_n 0, 1) := by decide +kernel
theorem dX5_init_10 : decode cX5_init 10 = .ok (.iconst 0, 1) := by decide +kernel
theorem dX5_init_11 : decode cX5_init 11 = .ok (.putfield 15, 3) := by decide +kernel
theorem dX5_init_14 : decode cX5_init 14 = .ok (.aload_n 0, 1) := by decide +kernel
theorem dX5_init_15 : decode cX5_init 15 = .ok (.bipush 12, 2) := by decide +kernel
theorem dX5_init_17 : decode cX5_init 17 = .ok (.newarray .int, 2) := by decide +kernel
theorem dX5_init_19 : decode cX5_init 19 = .ok (.putfield 19, 3) := by decide +kernel
theorem dX5_init_22 : decode cX5_init 22 = .ok (.return_, 1) := by decide +kernel
theorem dX5_add_0 : decode cX5_add 0 = .ok (.aload_n 0, 1) := by decide +kernel
theorem dX5_add_1 : decode cX5_add 1 = .ok (.getfield 19, 3) := by decide +kernel
theorem dX5_add_4 : decode cX5_add 4 = .ok (.aload_n 0, 1) := by decide +kernel
theorem dX5_add_5 : decode cX5_add 5 = .ok (.getfield 15, 3) := by decide +kernel
theorem dX5_add_8 : decode cX5_add 8 = .ok (.iload_n 1, 1) := by decide +kernel
theorem dX5_add_9 : decode cX5_add 9 = .ok (.invokestatic 23, 3) := by decide +kernel
theorem dX5_add_12 : decode cX5_add 12 = .ok (.aload_n 0, 1) := by decide +kernel
theorem dX5_add_13 : decode cX5_add 13 = .ok (.dup, 1) := by decide +kernel
theorem dX5_add_14 : decode cX5_add 14 = .ok (.getfield 15, 3) := by decide +kernel
theorem dX5_add_17 : decode cX5_add 17 = .ok (.iconst 1, 1) := by decide +kernel
theorem dX5_add_18 : decode cX5_add 18 = .ok (.iadd, 1) := by decide +kernel
theorem dX5_add_19 : decode cX5_add 19 = .ok (.putfield 15, 3) := by decide +kernel
theorem dX5_add_22 : decode cX5_add 22 = .ok (.aload_n 0, 1) := by decide +kernel
theorem dX5_add_23 : decode cX5_add 23 = .ok (.getfield 15, 3) := by decide +kernel
theorem dX5_add_26 : decode cX5_add 26 = .ok (.ireturn, 1) := by decide +kernel
theorem dX5_tellsWhoPassed_0 : decode cX5_tellsWhoPassed 0 = .ok (.aload_n 0, 1) := by decide +kernel
theorem dX5_tellsWhoPassed_1 : decode cX5_tellsWhoPassed 1 = .ok (.getfield 15, 3) := by decide +kernel
theorem dX5_tellsWhoPassed_4 : decode cX5_tellsWhoPassed 4 = .ok (.aload_n 0, 1) := by decide +kernel
theorem dX5_tellsWhoPassed_5 : decode cX5_tellsWhoPassed 5 = .ok (.getfield 9, 3) := by decide +kernel
theorem dX5_tellsWhoPassed_8 : decode cX5_tellsWhoPassed 8 = .ok (.getfield 27, 3) := by decide +kernel
theorem dX5_tellsWhoPassed_11 : decode cX5_tellsWhoPassed 11 = .ok (.if_icmp .le 5, 3) := by decide +kernel
theorem dX5_tellsWhoPassed_14 : decode cX5_tellsWhoPassed 14 = .ok (.iconst 0, 1) := by decide +kernel
theorem dX5_tellsWhoPassed_15 : decode cX5_tellsWhoPassed 15 = .ok (.ireturn, 1) := by decide +kernel
theorem dX5_tellsWhoPassed_16 : decode cX5_tellsWhoPassed 16 = .ok (.iconst 0, 1) := by decide +kernel
theorem dX5_tellsWhoPassed_17 : decode cX5_tellsWhoPassed 17 = .ok (.istore_n 1, 1) := by decide +kernel
theorem dX5_tellsWhoPassed_18 : decode cX5_tellsWhoPassed 18 = .ok (.iload_n 1, 1) := by decide +kernel
theorem dX5_tellsWhoPassed_19 : decode cX5_tellsWhoPassed 19 = .ok (.aload_n 0, 1) := by decide +kernel
theorem dX5_tellsWhoPassed_20 : decode cX5_tellsWhoPassed 20 = .ok (.getfield 15, 3) := by decide +kernel
theorem dX5_tellsWhoPassed_23 : decode cX5_tellsWhoPassed 23 = .ok (.if_icmp .ge 23, 3) := by decide +kernel
theorem dX5_tellsWhoPassed_26 : decode cX5_tellsWhoPassed 26 = .ok (.aload_n 0, 1) := by decide +kernel
theorem dX5_tellsWhoPassed_27 : decode cX5_tellsWhoPassed 27 = .ok (.getfield 19, 3) := by decide +kernel
theorem dX5_tellsWhoPassed_30 : decode cX5_tellsWhoPassed 30 = .ok (.iload_n 1, 1) := by decide +kernel
theorem dX5_tellsWhoPassed_31 : decode cX5_tellsWhoPassed 31 = .ok (.invokestatic 32, 3) := by decide +kernel
theorem dX5_tellsWhoPassed_34 : decode cX5_tellsWhoPassed 34 = .ok (.iconst 2, 1) := by decide +kernel
theorem dX5_tellsWhoPassed_35 : decode cX5_tellsWhoPassed 35 = .ok (.if_icmp .le 5, 3) := by decide +kernel
theorem dX5_tellsWhoPassed_38 : decode cX5_tellsWhoPassed 38 = .ok (.iconst 0, 1) := by decide +kernel
theorem dX5_tellsWhoPassed_39 : decode cX5_tellsWhoPassed 39 = .ok (.ireturn, 1) := by decide +kernel
theorem dX5_tellsWhoPassed_40 : decode cX5_tellsWhoPassed 40 = .ok (.iinc 1 1, 3) := by decide +kernel
theorem dX5_tellsWhoPassed_43 : decode cX5_tellsWhoPassed 43 = .ok (.goto (-25), 3) := by decide +kernel
theorem dX5_tellsWhoPassed_46 : decode cX5_tellsWhoPassed 46 = .ok (.iconst 1, 1) := by decide +kernel
theorem dX5_tellsWhoPassed_47 : decode cX5_tellsWhoPassed 47 = .ok (.ireturn, 1) := by decide +kernel
theorem dX5_leastLimitSo_0 : decode cX5_leastLimitSo 0 = .ok (.aload_n 0, 1) := by decide +kernel
theorem dX5_leastLimitSo_1 : decode cX5_leastLimitSo 1 = .ok (.iload_n 1, 1) := by decide +kernel
theorem dX5_leastLimitSo_2 : decode cX5_leastLimitSo 2 = .ok (.invokevirtual 36, 3) := by decide +kernel
theorem dX5_leastLimitSo_5 : decode cX5_leastLimitSo 5 = .ok (.ifCond .le 11, 3) := by decide +kernel
theorem dX5_leastLimitSo_8 : decode cX5_leastLimitSo 8 = .ok (.aload_n 0, 1) := by decide +kernel
theorem dX5_leastLimitSo_9 : decode cX5_leastLimitSo 9 = .ok (.iload_n 1, 1) := by decide +kernel
theorem dX5_leastLimitSo_10 : decode cX5_leastLimitSo 10 = .ok (.invokevirtual 40, 3) := by decide +kernel
theorem dX5_leastLimitSo_13 : decode cX5_leastLimitSo 13 = .ok (.goto 5, 3) := by decide +kernel
theorem dX5_leastLimitSo_16 : decode cX5_leastLimitSo 16 = .ok (.bipush (-9), 2) := by decide +kernel
theorem dX5_leastLimitSo_18 : decode cX5_leastLimitSo 18 = .ok (.ireturn, 1) := by decide +kernel
theorem dX5_limitsSo_0 : decode cX5_limitsSo 0 = .ok (.iconst 0, 1) := by decide +kernel
theorem dX5_limitsSo_1 : decode cX5_limitsSo 1 = .ok (.aload_n 0, 1) := by decide +kernel
theorem dX5_limitsSo_2 : decode cX5_limitsSo 2 = .ok (.iload_n 1, 1) := by decide +kernel
theorem dX5_limitsSo_3 : decode cX5_limitsSo 3 = .ok (.invokevirtual 43, 3) := by decide +kernel
theorem dX5_limitsSo_6 : decode cX5_limitsSo 6 = .ok (.aload_n 0, 1) := by decide +kernel
theorem dX5_limitsSo_7 : decode cX5_limitsSo 7 = .ok (.iload_n 1, 1) := by decide +kernel
theorem dX5_limitsSo_8 : decode cX5_limitsSo 8 = .ok (.invokevirtual 40, 3) := by decide +kernel
theorem dX5_limitsSo_11 : decode cX5_limitsSo 11 = .ok (.isub, 1) := by decide +kernel
theorem dX5_limitsSo_12 : decode cX5_limitsSo 12 = .ok (.iconst 1, 1) := by decide +kernel
theorem dX5_limitsSo_13 : decode cX5_limitsSo 13 = .ok (.iadd, 1) := by decide +kernel
theorem dX5_limitsSo_14 : decode cX5_limitsSo 14 = .ok (.invokestatic 46, 3) := by decide +kernel
theorem dX5_limitsSo_17 : decode cX5_limitsSo 17 = .ok (.ireturn, 1) := by decide +kernel
theorem dX5_lowestLimit_0 : decode cX5_lowestLimit 0 = .ok (.iconst 0, 1) := by decide +kernel
theorem dX5_lowestLimit_1 : decode cX5_lowestLimit 1 = .ok (.istore_n 2, 1) := by decide +kernel
theorem dX5_lowestLimit_2 : decode cX5_lowestLimit 2 = .ok (.iconst 0, 1) := by decide +kernel
theorem dX5_lowestLimit_3 : decode cX5_lowestLimit 3 = .ok (.istore_n 3, 1) := by decide +kernel
theorem dX5_lowestLimit_4 : decode cX5_lowestLimit 4 = .ok (.iload_n 3, 1) := by decide +kernel
theorem dX5_lowestLimit_5 : decode cX5_lowestLimit 5 = .ok (.aload_n 0, 1) := by decide +kernel
theorem dX5_lowestLimit_6 : decode cX5_lowestLimit 6 = .ok (.getfield 15, 3) := by decide +kernel
theorem dX5_lowestLimit_9 : decode cX5_lowestLimit 9 = .ok (.if_icmp .ge 39, 3) := by decide +kernel
theorem dX5_lowestLimit_12 : decode cX5_lowestLimit 12 = .ok (.aload_n 0, 1) := by decide +kernel
theorem dX5_lowestLimit_13 : decode cX5_lowestLimit 13 = .ok (.getfield 19, 3) := by decide +kernel
theorem dX5_lowestLimit_16 : decode cX5_lowestLimit 16 = .ok (.iload_n 3, 1) := by decide +kernel
theorem dX5_lowestLimit_17 : decode cX5_lowestLimit 17 = .ok (.invokestatic 32, 3) := by decide +kernel
theorem dX5_lowestLimit_20 : decode cX5_lowestLimit 20 = .ok (.iconst 1, 1) := by decide +kernel
theorem dX5_lowestLimit_21 : decode cX5_lowestLimit 21 = .ok (.if_icmp .ne 21, 3) := by decide +kernel
theorem dX5_lowestLimit_24 : decode cX5_lowestLimit 24 = .ok (.iload_n 2, 1) := by decide +kernel
theorem dX5_lowestLimit_25 : decode cX5_lowestLimit 25 = .ok (.aload_n 0, 1) := by decide +kernel
theorem dX5_lowestLimit_26 : decode cX5_lowestLimit 26 = .ok (.iload_n 3, 1) := by decide +kernel
theorem dX5_lowestLimit_27 : decode cX5_lowestLimit 27 = .ok (.iload_n 1, 1) := by decide +kernel
theorem dX5_lowestLimit_28 : decode cX5_lowestLimit 28 = .ok (.aload_n 0, 1) := by decide +kernel
theorem dX5_lowestLimit_29 : decode cX5_lowestLimit 29 = .ok (.getfield 9, 3) := by decide +kernel
theorem dX5_lowestLimit_32 : decode cX5_lowestLimit 32 = .ok (.getfield 52, 3) := by decide +kernel
theorem dX5_lowestLimit_35 : decode cX5_lowestLimit 35 = .ok (.invokevirtual 55, 3) := by decide +kernel
theorem dX5_lowestLimit_38 : decode cX5_lowestLimit 38 = .ok (.invokestatic 46, 3) := by decide +kernel
theorem dX5_lowestLimit_41 : decode cX5_lowestLimit 41 = .ok (.istore_n 2, 1) := by decide +kernel
theorem dX5_lowestLimit_42 : decode cX5_lowestLimit 42 = .ok (.iinc 3 1, 3) := by decide +kernel
theorem dX5_lowestLimit_45 : decode cX5_lowestLimit 45 = .ok (.goto (-41), 3) := by decide +kernel
theorem dX5_lowestLimit_48 : decode cX5_lowestLimit 48 = .ok (.iload_n 2, 1) := by decide +kernel
theorem dX5_lowestLimit_49 : decode cX5_lowestLimit 49 = .ok (.ireturn, 1) := by decide +kernel
theorem dX5_highestLimit_0 : decode cX5_highestLimit 0 = .ok (.bipush 99, 2) := by decide +kernel
theorem dX5_highestLimit_2 : decode cX5_highestLimit 2 = .ok (.istore_n 2, 1) := by decide +kernel
theorem dX5_highestLimit_3 : decode cX5_highestLimit 3 = .ok (.iconst 0, 1) := by decide +kernel
theorem dX5_highestLimit_4 : decode cX5_highestLimit 4 = .ok (.istore_n 3, 1) := by decide +kernel
theorem dX5_highestLimit_5 : decode cX5_highestLimit 5 = .ok (.iload_n 3, 1) := by decide +kernel
theorem dX5_highestLimit_6 : decode cX5_highestLimit 6 = .ok (.aload_n 0, 1) := by decide +kernel
theorem dX5_highestLimit_7 : decode cX5_highestLimit 7 = .ok (.getfield 15, 3) := by decide +kernel
theorem dX5_highestLimit_10 : decode cX5_highestLimit 10 = .ok (.if_icmp .ge 53, 3) := by decide +kernel
theorem dX5_highestLimit_13 : decode cX5_highestLimit 13 = .ok (.aload_n 0, 1) := by decide +kernel
theorem dX5_highestLimit_14 : decode cX5_highestLimit 14 = .ok (.getfield 19, 3) := by decide +kernel
theorem dX5_highestLimit_17 : decode cX5_highestLimit 17 = .ok (.iload_n 3, 1) := by decide +kernel
theorem dX5_highestLimit_18 : decode cX5_highestLimit 18 = .ok (.invokestatic 32, 3) := by decide +kernel
theorem dX5_highestLimit_21 : decode cX5_highestLimit 21 = .ok (.iconst 1, 1) := by decide +kernel
theorem dX5_highestLimit_22 : decode cX5_highestLimit 22 = .ok (.if_icmp .eq 35, 3) := by decide +kernel
theorem dX5_highestLimit_25 : decode cX5_highestLimit 25 = .ok (.aload_n 0, 1) := by decide +kernel
theorem dX5_highestLimit_26 : decode cX5_highestLimit 26 = .ok (.getfield 19, 3) := by decide +kernel
theorem dX5_highestLimit_29 : decode cX5_highestLimit 29 = .ok (.iload_n 3, 1) := by decide +kernel
theorem dX5_highestLimit_30 : decode cX5_highestLimit 30 = .ok (.invokestatic 32, 3) := by decide +kernel
theorem dX5_highestLimit_33 : decode cX5_highestLimit 33 = .ok (.iconst 2, 1) := by decide +kernel
theorem dX5_highestLimit_34 : decode cX5_highestLimit 34 = .ok (.if_icmp .eq 23, 3) := by decide +kernel
theorem dX5_highestLimit_37 : decode cX5_highestLimit 37 = .ok (.iload_n 2, 1) := by decide +kernel
theorem dX5_highestLimit_38 : decode cX5_highestLimit 38 = .ok (.aload_n 0, 1) := by decide +kernel
theorem dX5_highestLimit_39 : decode cX5_highestLimit 39 = .ok (.iload_n 3, 1) := by decide +kernel
theorem dX5_highestLimit_40 : decode cX5_highestLimit 40 = .ok (.iload_n 1, 1) := by decide +kernel
theorem dX5_highestLimit_41 : decode cX5_highestLimit 41 = .ok (.aload_n 0, 1) := by decide +kernel
theorem dX5_highestLimit_42 : decode cX5_highestLimit 42 = .ok (.getfield 9, 3) := by decide +kernel
theorem dX5_highestLimit_45 : decode cX5_highestLimit 45 = .ok (.getfield 52, 3) := by decide +kernel
theorem dX5_highestLimit_48 : decode cX5_highestLimit 48 = .ok (.invokevirtual 55, 3) := by decide +kernel
theorem dX5_highestLimit_51 : decode cX5_highestLimit 51 = .ok (.iconst 1, 1) := by decide +kernel
theorem dX5_highestLimit_52 : decode cX5_highestLimit 52 = .ok (.isub, 1) := by decide +kernel
theorem dX5_highestLimit_53 : decode cX5_highestLimit 53 = .ok (.invokestatic 59, 3) := by decide +kernel
theorem dX5_highestLimit_56 : decode cX5_highestLimit 56 = .ok (.istore_n 2, 1) := by decide +kernel
theorem dX5_highestLimit_57 : decode cX5_highestLimit 57 = .ok (.iinc 3 1, 3) := by decide +kernel
theorem dX5_highestLimit_60 : decode cX5_highestLimit 60 = .ok (.goto (-55), 3) := by decide +kernel
theorem dX5_highestLimit_63 : decode cX5_highestLimit 63 = .ok (.iload_n 2, 1) := by decide +kernel
theorem dX5_highestLimit_64 : decode cX5_highestLimit 64 = .ok (.ireturn, 1) := by decide +kernel
theorem dX5_limitOf_0 : decode cX5_limitOf 0 = .ok (.aload_n 0, 1) := by decide +kernel
theorem dX5_limitOf_1 : decode cX5_limitOf 1 = .ok (.getfield 9, 3) := by decide +kernel
theorem dX5_limitOf_4 : decode cX5_limitOf 4 = .ok (.iload_n 2, 1) := by decide +kernel
theorem dX5_limitOf_5 : decode cX5_limitOf 5 = .ok (.aload_n 0, 1) := by decide +kernel
theorem dX5_limitOf_6 : decode cX5_limitOf 6 = .ok (.getfield 9, 3) := by decide +kernel
theorem dX5_limitOf_9 : decode cX5_limitOf 9 = .ok (.getfield 62, 3) := by decide +kernel
theorem dX5_limitOf_12 : decode cX5_limitOf 12 = .ok (.iload_n 1, 1) := by decide +kernel
theorem dX5_limitOf_13 : decode cX5_limitOf 13 = .ok (.invokestatic 32, 3) := by decide +kernel
theorem dX5_limitOf_16 : decode cX5_limitOf 16 = .ok (.aload_n 0, 1) := by decide +kernel
theorem dX5_limitOf_17 : decode cX5_limitOf 17 = .ok (.getfield 9, 3) := by decide +kernel
theorem dX5_limitOf_20 : decode cX5_limitOf 20 = .ok (.getfield 65, 3) := by decide +kernel
theorem dX5_limitOf_23 : decode cX5_limitOf 23 = .ok (.iload_n 1, 1) := by decide +kernel
theorem dX5_limitOf_24 : decode cX5_limitOf 24 = .ok (.invokestatic 32, 3) := by decide +kernel
theorem dX5_limitOf_27 : decode cX5_limitOf 27 = .ok (.iload_n 3, 1) := by decide +kernel
theorem dX5_limitOf_28 : decode cX5_limitOf 28 = .ok (.invokevirtual 68, 3) := by decide +kernel
theorem dX5_limitOf_31 : decode cX5_limitOf 31 = .ok (.ireturn, 1) := by decide +kernel
theorem dX5_hoursSo_0 : decode cX5_hoursSo 0 = .ok (.iconst 0, 1) := by decide +kernel
theorem dX5_hoursSo_1 : decode cX5_hoursSo 1 = .ok (.istore_n 2, 1) := by decide +kernel
theorem dX5_hoursSo_2 : decode cX5_hoursSo 2 = .ok (.iconst 0, 1) := by decide +kernel
theorem dX5_hoursSo_3 : decode cX5_hoursSo 3 = .ok (.istore_n 3, 1) := by decide +kernel
theorem dX5_hoursSo_4 : decode cX5_hoursSo 4 = .ok (.iload_n 3, 1) := by decide +kernel
theorem dX5_hoursSo_5 : decode cX5_hoursSo 5 = .ok (.bipush 24, 2) := by decide +kernel
theorem dX5_hoursSo_7 : decode cX5_hoursSo 7 = .ok (.if_icmp .ge 24, 3) := by decide +kernel
theorem dX5_hoursSo_10 : decode cX5_hoursSo 10 = .ok (.aload_n 0, 1) := by decide +kernel
theorem dX5_hoursSo_11 : decode cX5_hoursSo 11 = .ok (.iload_n 1, 1) := by decide +kernel
theorem dX5_hoursSo_12 : decode cX5_hoursSo 12 = .ok (.iload_n 3, 1) := by decide +kernel
theorem dX5_hoursSo_13 : decode cX5_hoursSo 13 = .ok (.invokevirtual 72, 3) := by decide +kernel
theorem dX5_hoursSo_16 : decode cX5_hoursSo 16 = .ok (.ifCond .eq 9, 3) := by decide +kernel
theorem dX5_hoursSo_19 : decode cX5_hoursSo 19 = .ok (.iload_n 2, 1) := by decide +kernel
theorem dX5_hoursSo_20 : decode cX5_hoursSo 20 = .ok (.iconst 1, 1) := by decide +kernel
theorem dX5_hoursSo_21 : decode cX5_hoursSo 21 = .ok (.iload_n 3, 1) := by decide +kernel
theorem dX5_hoursSo_22 : decode cX5_hoursSo 22 = .ok (.ishl, 1) := by decide +kernel
theorem dX5_hoursSo_23 : decode cX5_hoursSo 23 = .ok (.ior, 1) := by decide +kernel
theorem dX5_hoursSo_24 : decode cX5_hoursSo 24 = .ok (.istore_n 2, 1) := by decide +kernel
theorem dX5_hoursSo_25 : decode cX5_hoursSo 25 = .ok (.iinc 3 1, 3) := by decide +kernel
theorem dX5_hoursSo_28 : decode cX5_hoursSo 28 = .ok (.goto (-24), 3) := by decide +kernel
theorem dX5_hoursSo_31 : decode cX5_hoursSo 31 = .ok (.iload_n 2, 1) := by decide +kernel
theorem dX5_hoursSo_32 : decode cX5_hoursSo 32 = .ok (.ireturn, 1) := by decide +kernel
theorem dX5_isSoAt_0 : decode cX5_isSoAt 0 = .ok (.iconst 0, 1) := by decide +kernel
theorem dX5_isSoAt_1 : decode cX5_isSoAt 1 = .ok (.istore_n 3, 1) := by decide +kernel
theorem dX5_isSoAt_2 : decode cX5_isSoAt 2 = .ok (.iload_n 3, 1) := by decide +kernel
theorem dX5_isSoAt_3 : decode cX5_isSoAt 3 = .ok (.aload_n 0, 1) := by decide +kernel
theorem dX5_isSoAt_4 : decode cX5_isSoAt 4 = .ok (.getfield 15, 3) := by decide +kernel
theorem dX5_isSoAt_7 : decode cX5_isSoAt 7 = .ok (.if_icmp .ge 51, 3) := by decide +kernel
theorem dX5_isSoAt_10 : decode cX5_isSoAt 10 = .ok (.aload_n 0, 1) := by decide +kernel
theorem dX5_isSoAt_11 : decode cX5_isSoAt 11 = .ok (.getfield 19, 3) := by decide +kernel
theorem dX5_isSoAt_14 : decode cX5_isSoAt 14 = .ok (.iload_n 3, 1) := by decide +kernel
theorem dX5_isSoAt_15 : decode cX5_isSoAt 15 = .ok (.invokestatic 32, 3) := by decide +kernel
theorem dX5_isSoAt_18 : decode cX5_isSoAt 18 = .ok (.istore 4, 2) := by decide +kernel
theorem dX5_isSoAt_20 : decode cX5_isSoAt 20 = .ok (.iload 4, 2) := by decide +kernel
theorem dX5_isSoAt_22 : decode cX5_isSoAt 22 = .ok (.iconst 2, 1) := by decide +kernel
theorem dX5_isSoAt_23 : decode cX5_isSoAt 23 = .ok (.if_icmp .eq 29, 3) := by decide +kernel
theorem dX5_isSoAt_26 : decode cX5_isSoAt 26 = .ok (.iload 4, 2) := by decide +kernel
theorem dX5_isSoAt_28 : decode cX5_isSoAt 28 = .ok (.iconst 1, 1) := by decide +kernel
theorem dX5_isSoAt_29 : decode cX5_isSoAt 29 = .ok (.if_icmp .ne 7, 3) := by decide +kernel
theorem dX5_isSoAt_32 : decode cX5_isSoAt 32 = .ok (.iconst 1, 1) := by decide +kernel
theorem dX5_isSoAt_33 : decode cX5_isSoAt 33 = .ok (.goto 4, 3) := by decide +kernel
theorem dX5_isSoAt_36 : decode cX5_isSoAt 36 = .ok (.iconst 0, 1) := by decide +kernel
theorem dX5_isSoAt_37 : decode cX5_isSoAt 37 = .ok (.aload_n 0, 1) := by decide +kernel
theorem dX5_isSoAt_38 : decode cX5_isSoAt 38 = .ok (.getfield 9, 3) := by decide +kernel
theorem dX5_isSoAt_41 : decode cX5_isSoAt 41 = .ok (.iload_n 3, 1) := by decide +kernel
theorem dX5_isSoAt_42 : decode cX5_isSoAt 42 = .ok (.iload_n 1, 1) := by decide +kernel
theorem dX5_isSoAt_43 : decode cX5_isSoAt 43 = .ok (.iload_n 2, 1) := by decide +kernel
theorem dX5_isSoAt_44 : decode cX5_isSoAt 44 = .ok (.invokevirtual 76, 3) := by decide +kernel
theorem dX5_isSoAt_47 : decode cX5_isSoAt 47 = .ok (.if_icmp .eq 5, 3) := by decide +kernel
theorem dX5_isSoAt_50 : decode cX5_isSoAt 50 = .ok (.iconst 0, 1) := by decide +kernel
theorem dX5_isSoAt_51 : decode cX5_isSoAt 51 = .ok (.ireturn, 1) := by decide +kernel
theorem dX5_isSoAt_52 : decode cX5_isSoAt 52 = .ok (.iinc 3 1, 3) := by decide +kernel
theorem dX5_isSoAt_55 : decode cX5_isSoAt 55 = .ok (.goto (-53), 3) := by decide +kernel
theorem dX5_isSoAt_58 : decode cX5_isSoAt 58 = .ok (.iconst 1, 1) := by decide +kernel
theorem dX5_isSoAt_59 : decode cX5_isSoAt 59 = .ok (.ireturn, 1) := by decide +kernel
theorem dX5_firstNotSo_0 : decode cX5_firstNotSo 0 = .ok (.iconst 0, 1) := by decide +kernel
theorem dX5_firstNotSo_1 : decode cX5_firstNotSo 1 = .ok (.istore_n 2, 1) := by decide +kernel
theorem dX5_firstNotSo_2 : decode cX5_firstNotSo 2 = .ok (.iload_n 2, 1) := by decide +kernel
theorem dX5_firstNotSo_3 : decode cX5_firstNotSo 3 = .ok (.aload_n 0, 1) := by decide +kernel
theorem dX5_firstNotSo_4 : decode cX5_firstNotSo 4 = .ok (.getfield 15, 3) := by decide +kernel
theorem dX5_firstNotSo_7 : decode cX5_firstNotSo 7 = .ok (.if_icmp .ge 49, 3) := by decide +kernel
theorem dX5_firstNotSo_10 : decode cX5_firstNotSo 10 = .ok (.aload_n 0, 1) := by decide +kernel
theorem dX5_firstNotSo_11 : decode cX5_firstNotSo 11 = .ok (.getfield 9, 3) := by decide +kernel
theorem dX5_firstNotSo_14 : decode cX5_firstNotSo 14 = .ok (.iload_n 2, 1) := by decide +kernel
theorem dX5_firstNotSo_15 : decode cX5_firstNotSo 15 = .ok (.invokevirtual 80, 3) := by decide +kernel
theorem dX5_firstNotSo_18 : decode cX5_firstNotSo 18 = .ok (.ifCond .eq 30, 3) := by decide +kernel
theorem dX5_firstNotSo_21 : decode cX5_firstNotSo 21 = .ok (.aload_n 0, 1) := by decide +kernel
theorem dX5_firstNotSo_22 : decode cX5_firstNotSo 22 = .ok (.getfield 9, 3) := by decide +kernel
theorem dX5_firstNotSo_25 : decode cX5_firstNotSo 25 = .ok (.iload_n 1, 1) := by decide +kernel
theorem dX5_firstNotSo_26 : decode cX5_firstNotSo 26 = .ok (.iload_n 2, 1) := by decide +kernel
theorem dX5_firstNotSo_27 : decode cX5_firstNotSo 27 = .ok (.aload_n 0, 1) := by decide +kernel
theorem dX5_firstNotSo_28 : decode cX5_firstNotSo 28 = .ok (.getfield 9, 3) := by decide +kernel
theorem dX5_firstNotSo_31 : decode cX5_firstNotSo 31 = .ok (.getfield 52, 3) := by decide +kernel
theorem dX5_firstNotSo_34 : decode cX5_firstNotSo 34 = .ok (.invokevirtual 84, 3) := by decide +kernel
theorem dX5_firstNotSo_37 : decode cX5_firstNotSo 37 = .ok (.aload_n 0, 1) := by decide +kernel
theorem dX5_firstNotSo_38 : decode cX5_firstNotSo 38 = .ok (.getfield 19, 3) := by decide +kernel
theorem dX5_firstNotSo_41 : decode cX5_firstNotSo 41 = .ok (.iload_n 2, 1) := by decide +kernel
theorem dX5_firstNotSo_42 : decode cX5_firstNotSo 42 = .ok (.invokestatic 32, 3) := by decide +kernel
theorem dX5_firstNotSo_45 : decode cX5_firstNotSo 45 = .ok (.if_icmp .eq 5, 3) := by decide +kernel
theorem dX5_firstNotSo_48 : decode cX5_firstNotSo 48 = .ok (.iload_n 2, 1) := by decide +kernel
theorem dX5_firstNotSo_49 : decode cX5_firstNotSo 49 = .ok (.ireturn, 1) := by decide +kernel
theorem dX5_firstNotSo_50 : decode cX5_firstNotSo 50 = .ok (.iinc 2 1, 3) := by decide +kernel
theorem dX5_firstNotSo_53 : decode cX5_firstNotSo 53 = .ok (.goto (-51), 3) := by decide +kernel
theorem dX5_firstNotSo_56 : decode cX5_firstNotSo 56 = .ok (.bipush (-9), 2) := by decide +kernel
theorem dX5_firstNotSo_58 : decode cX5_firstNotSo 58 = .ok (.ireturn, 1) := by decide +kernel
theorem dX6_init_0 : decode cX6_init 0 = .ok (.aload_n 0, 1) := by decide +kernel
theorem dX6_init_1 : decode cX6_init 1 = .ok (.invokespecial 3, 3) := by decide +kernel
theorem dX6_init_4 : decode cX6_init 4 = .ok (.aload_n 0, 1) := by decide +kernel
theorem dX6_init_5 : decode cX6_init 5 = .ok (.iconst 0, 1) := by decide +kernel
theorem dX6_init_6 : decode cX6_init 6 = .ok (.putfield 9, 3) := by decide +kernel
theorem dX6_init_9 : decode cX6_init 9 = .ok (.aload_n 0, 1) := by decide +kernel
theorem dX6_init_10 : decode cX6_init 10 = .ok (.iconst 0, 1) := by decide +kernel
theorem dX6_init_11 : decode cX6_init 11 = .ok (.putfield 15, 3) := by decide +kernel
theorem dX6_init_14 : decode cX6_init 14 = .ok (.aload_n 0, 1) := by decide +kernel
theorem dX6_init_15 : decode cX6_init 15 = .ok (.iconst 0, 1) := by decide +kernel
theorem dX6_init_16 : decode cX6_init 16 = .ok (.putfield 18, 3) := by decide +kernel
theorem dX6_init_19 : decode cX6_init 19 = .ok (.aload_n 0, 1) := by decide +kernel
theorem dX6_init_20 : decode cX6_init 20 = .ok (.bipush 8, 2) := by decide +kernel
theorem dX6_init_22 : decode cX6_init 22 = .ok (.putfield 21, 3) := by decide +kernel
theorem dX6_init_25 : decode cX6_init 25 = .ok (.aload_n 0, 1) := by decide +kernel
theorem dX6_init_26 : decode cX6_init 26 = .ok (.bipush 11, 2) := by decide +kernel
theorem dX6_init_28 : decode cX6_init 28 = .ok (.putfield 24, 3) := by decide +kernel
theorem dX6_init_31 : decode cX6_init 31 = .ok (.aload_n 0, 1) := by decide +kernel
theorem dX6_init_32 : decode cX6_init 32 = .ok (.iconst 0, 1) := by decide +kernel
theorem dX6_init_33 : decode cX6_init 33 = .ok (.putfield 27, 3) := by decide +kernel
theorem dX6_init_36 : decode cX6_init 36 = .ok (.aload_n 0, 1) := by decide +kernel
theorem dX6_init_37 : decode cX6_init 37 = .ok (.bipush 8, 2) := by decide +kernel
theorem dX6_init_39 : decode cX6_init 39 = .ok (.newarray .int, 2) := by decide +kernel
theorem dX6_init_41 : decode cX6_init 41 = .ok (.putfield 30, 3) := by decide +kernel
theorem dX6_init_44 : decode cX6_init 44 = .ok (.aload_n 0, 1) := by decide +kernel
theorem dX6_init_45 : decode cX6_init 45 = .ok (.bipush 8, 2) := by decide +kernel
theorem dX6_init_47 : decode cX6_init 47 = .ok (.newarray .int, 2) := by decide +kernel
theorem dX6_init_49 : decode cX6_init 49 = .ok (.putfield 34, 3) := by decide +kernel
theorem dX6_init_52 : decode cX6_init 52 = .ok (.aload_n 0, 1) := by decide +kernel
theorem dX6_init_53 : decode cX6_init 53 = .ok (.bipush 8, 2) := by decide +kernel
theorem dX6_init_55 : decode cX6_init 55 = .ok (.newarray .int, 2) := by decide +kernel
theorem dX6_init_57 : decode cX6_init 57 = .ok (.putfield 37, 3) := by decide +kernel
theorem dX6_init_60 : decode cX6_init 60 = .ok (.aload_n 0, 1) := by decide +kernel
theorem dX6_init_61 : decode cX6_init 61 = .ok (.bipush 6, 2) := by decide +kernel
theorem dX6_init_63 : decode cX6_init 63 = .ok (.newarray .int, 2) := by decide +kernel
theorem dX6_init_65 : decode cX6_init 65 = .ok (.putfield 40, 3) := by decide +kernel
theorem dX6_init_68 : decode cX6_init 68 = .ok (.aload_n 0, 1) := by decide +kernel
theorem dX6_init_69 : decode cX6_init 69 = .ok (.iconst 5, 1) := by decide +kernel
theorem dX6_init_70 : decode cX6_init 70 = .ok (.newarray .int, 2) := by decide +kernel
theorem dX6_init_72 : decode cX6_init 72 = .ok (.putfield 43, 3) := by decide +kernel
theorem dX6_init_75 : decode cX6_init 75 = .ok (.aload_n 0, 1) := by decide +kernel
theorem dX6_init_76 : decode cX6_init 76 = .ok (.iconst 5, 1) := by decide +kernel
theorem dX6_init_77 : decode cX6_init 77 = .ok (.newarray .int, 2) := by decide +kernel
theorem dX6_init_79 : decode cX6_init 79 = .ok (.putfield 46, 3) := by decide +kernel
theorem dX6_init_82 : decode cX6_init 82 = .ok (.return_, 1) := by decide +kernel
theorem dX6_copyFrom_0 : decode cX6_copyFrom 0 = .ok (.aload_n 0, 1) := by decide +kernel
theorem dX6_copyFrom_1 : decode cX6_copyFrom 1 = .ok (.aload_n 1, 1) := by decide +kernel
theorem dX6_copyFrom_2 : decode cX6_copyFrom 2 = .ok (.getfield 9, 3) := by decide +kernel
theorem dX6_copyFrom_5 : decode cX6_copyFrom 5 = .ok (.putfield 9, 3) := by decide +kernel
theorem dX6_copyFrom_8 : decode cX6_copyFrom 8 = .ok (.aload_n 0, 1) := by decide +kernel
theorem dX6_copyFrom_9 : decode cX6_copyFrom 9 = .ok (.aload_n 1, 1) := by decide +kernel
theorem dX6_copyFrom_10 : decode cX6_copyFrom 10 = .ok (.getfield 15, 3) := by decide +kernel
theorem dX6_copyFrom_13 : decode cX6_copyFrom 13 = .ok (.putfield 15, 3) := by decide +kernel
theorem dX6_copyFrom_16 : decode cX6_copyFrom 16 = .ok (.aload_n 0, 1) := by decide +kernel
theorem dX6_copyFrom_17 : decode cX6_copyFrom 17 = .ok (.aload_n 1, 1) := by decide +kernel
theorem dX6_copyFrom_18 : decode cX6_copyFrom 18 = .ok (.getfield 18, 3) := by decide +kernel
theorem dX6_copyFrom_21 : decode cX6_copyFrom 21 = .ok (.putfield 18, 3) := by decide +kernel
theorem dX6_copyFrom_24 : decode cX6_copyFrom 24 = .ok (.aload_n 0, 1) := by decide +kernel
theorem dX6_copyFrom_25 : decode cX6_copyFrom 25 = .ok (.aload_n 1, 1) := by decide +kernel
theorem dX6_copyFrom_26 : decode cX6_copyFrom 26 = .ok (.getfield 21, 3) := by decide +kernel
theorem dX6_copyFrom_29 : decode cX6_copyFrom 29 = .ok (.putfield 21, 3) := by decide +kernel
theorem dX6_copyFrom_32 : decode cX6_copyFrom 32 = .ok (.aload_n 0, 1) := by decide +kernel
theorem dX6_copyFrom_33 : decode cX6_copyFrom 33 = .ok (.aload_n 1, 1) := by decide +kernel
theorem dX6_copyFrom_34 : decode cX6_copyFrom 34 = .ok (.getfield 24, 3) := by decide +kernel
theorem dX6_copyFrom_37 : decode cX6_copyFrom 37 = .ok (.putfield 24, 3) := by decide +kernel
theorem dX6_copyFrom_40 : decode cX6_copyFrom 40 = .ok (.aload_n 0, 1) := by decide +kernel
theorem dX6_copyFrom_41 : decode cX6_copyFrom 41 = .ok (.aload_n 1, 1) := by decide +kernel
theorem dX6_copyFrom_42 : decode cX6_copyFrom 42 = .ok (.getfield 27, 3) := by decide +kernel
theorem dX6_copyFrom_45 : decode cX6_copyFrom 45 = .ok (.putfield 27, 3) := by decide +kernel
theorem dX6_copyFrom_48 : decode cX6_copyFrom 48 = .ok (.aload_n 1, 1) := by decide +kernel
theorem dX6_copyFrom_49 : decode cX6_copyFrom 49 = .ok (.getfield 30, 3) := by decide +kernel
theorem dX6_copyFrom_52 : decode cX6_copyFrom 52 = .ok (.aload_n 0, 1) := by decide +kernel
theorem dX6_copyFrom_53 : decode cX6_copyFrom 53 = .ok (.getfield 30, 3) := by decide +kernel
theorem dX6_copyFrom_56 : decode cX6_copyFrom 56 = .ok (.bipush 8, 2) := by decide +kernel
theorem dX6_copyFrom_58 : decode cX6_copyFrom 58 = .ok (.invokestatic 49, 3) := by decide +kernel
theorem dX6_copyFrom_61 : decode cX6_copyFrom 61 = .ok (.aload_n 1, 1) := by decide +kernel
theorem dX6_copyFrom_62 : decode cX6_copyFrom 62 = .ok (.getfield 34, 3) := by decide +kernel
theorem dX6_copyFrom_65 : decode cX6_copyFrom 65 = .ok (.aload_n 0, 1) := by decide +kernel
theorem dX6_copyFrom_66 : decode cX6_copyFrom 66 = .ok (.getfield 34, 3) := by decide +kernel
theorem dX6_copyFrom_69 : decode cX6_copyFrom 69 = .ok (.bipush 8, 2) := by decide +kernel
theorem dX6_copyFrom_71 : decode cX6_copyFrom 71 = .ok (.invokestatic 49, 3) := by decide +kernel
theorem dX6_copyFrom_74 : decode cX6_copyFrom 74 = .ok (.aload_n 1, 1) := by decide +kernel
theorem dX6_copyFrom_75 : decode cX6_copyFrom 75 = .ok (.getfield 37, 3) := by decide +kernel
theorem dX6_copyFrom_78 : decode cX6_copyFrom 78 = .ok (.aload_n 0, 1) := by decide +kernel
theorem dX6_copyFrom_79 : decode cX6_copyFrom 79 = .ok (.getfield 37, 3) := by decide +kernel
theorem dX6_copyFrom_82 : decode cX6_copyFrom 82 = .ok (.bipush 8, 2) := by decide +kernel
theorem dX6_copyFrom_84 : decode cX6_copyFrom 84 = .ok (.invokestatic 49, 3) := by decide +kernel
theorem dX6_copyFrom_87 : decode cX6_copyFrom 87 = .ok (.aload_n 1, 1) := by decide +kernel
theorem dX6_copyFrom_88 : decode cX6_copyFrom 88 = .ok (.getfield 40, 3) := by decide +kernel
theorem dX6_copyFrom_91 : decode cX6_copyFrom 91 = .ok (.aload_n 0, 1) := by decide +kernel
theorem dX6_copyFrom_92 : decode cX6_copyFrom 92 = .ok (.getfield 40, 3) := by decide +kernel
theorem dX6_copyFrom_95 : decode cX6_copyFrom 95 = .ok (.bipush 6, 2) := by decide +kernel
theorem dX6_copyFrom_97 : decode cX6_copyFrom 97 = .ok (.invokestatic 49, 3) := by decide +kernel
theorem dX6_copyFrom_100 : decode cX6_copyFrom 100 = .ok (.aload_n 1, 1) := by decide +kernel
theorem dX6_copyFrom_101 : decode cX6_copyFrom 101 = .ok (.getfield 43, 3) := by decide +kernel
theorem dX6_copyFrom_104 : decode cX6_copyFrom 104 = .ok (.aload_n 0, 1) := by decide +kernel
theorem dX6_copyFrom_105 : decode cX6_copyFrom 105 = .ok (.getfield 43, 3) := by decide +kernel
theorem dX6_copyFrom_108 : decode cX6_copyFrom 108 = .ok (.iconst 5, 1) := by decide +kernel
theorem dX6_copyFrom_109 : decode cX6_copyFrom 109 = .ok (.invokestatic 49, 3) := by decide +kernel
theorem dX6_copyFrom_112 : decode cX6_copyFrom 112 = .ok (.aload_n 1, 1) := by decide +kernel
theorem dX6_copyFrom_113 : decode cX6_copyFrom 113 = .ok (.getfield 46, 3) := by decide +kernel
theorem dX6_copyFrom_116 : decode cX6_copyFrom 116 = .ok (.aload_n 0, 1) := by decide +kernel
theorem dX6_copyFrom_117 : decode cX6_copyFrom 117 = .ok (.getfield 46, 3) := by decide +kernel
theorem dX6_copyFrom_120 : decode cX6_copyFrom 120 = .ok (.iconst 5, 1) := by decide +kernel
theorem dX6_copyFrom_121 : decode cX6_copyFrom 121 = .ok (.invokestatic 49, 3) := by decide +kernel
theorem dX6_copyFrom_124 : decode cX6_copyFrom 124 = .ok (.return_, 1) := by decide +kernel
theorem dX6_hasStreet_0 : decode cX6_hasStreet 0 = .ok (.iload_n 1, 1) := by decide +kernel
theorem dX6_hasStreet_1 : decode cX6_hasStreet 1 = .ok (.ifCond .lt 15, 3) := by decide +kernel
theorem dX6_hasStreet_4 : decode cX6_hasStreet 4 = .ok (.iload_n 1, 1) := by decide +kernel
theorem dX6_hasStreet_5 : decode cX6_hasStreet 5 = .ok (.aload_n 0, 1) := by decide +kernel
theorem dX6_hasStreet_6 : decode cX6_hasStreet 6 = .ok (.getfield 9, 3) := by decide +kernel
theorem dX6_hasStreet_9 : decode cX6_hasStreet 9 = .ok (.if_icmp .ge 7, 3) := by decide +kernel
theorem dX6_hasStreet_12 : decode cX6_hasStreet 12 = .ok (.iconst 1, 1) := by decide +kernel
theorem dX6_hasStreet_13 : decode cX6_hasStreet 13 = .ok (.goto 4, 3) := by decide +kernel
theorem dX6_hasStreet_16 : decode cX6_hasStreet 16 = .ok (.iconst 0, 1) := by decide +kernel
theorem dX6_hasStreet_17 : decode cX6_hasStreet 17 = .ok (.ireturn, 1) := by decide +kernel
theorem dX6_hasWay_0 : decode cX6_hasWay 0 = .ok (.iload_n 1, 1) := by decide +kernel
theorem dX6_hasWay_1 : decode cX6_hasWay 1 = .ok (.ifCond .lt 15, 3) := by decide +kernel
theorem dX6_hasWay_4 : decode cX6_hasWay 4 = .ok (.iload_n 1, 1) := by decide +kernel
theorem dX6_hasWay_5 : decode cX6_hasWay 5 = .ok (.aload_n 0, 1) := by decide +kernel
theorem dX6_hasWay_6 : decode cX6_hasWay 6 = .ok (.getfield 15, 3) := by decide +kernel
theorem dX6_hasWay_9 : decode cX6_hasWay 9 = .ok (.if_icmp .ge 7, 3) := by decide +kernel
theorem dX6_hasWay_12 : decode cX6_hasWay 12 = .ok (.iconst 1, 1) := by decide +kernel
theorem dX6_hasWay_13 : decode cX6_hasWay 13 = .ok (.goto 4, 3) := by decide +kernel
theorem dX6_hasWay_16 : decode cX6_hasWay 16 = .ok (.iconst 0, 1) := by decide +kernel
theorem dX6_hasWay_17 : decode cX6_hasWay 17 = .ok (.ireturn, 1) := by decide +kernel
theorem dX6_hasLearner_0 : decode cX6_hasLearner 0 = .ok (.iload_n 1, 1) := by decide +kernel
theorem dX6_hasLearner_1 : decode cX6_hasLearner 1 = .ok (.ifCond .lt 15, 3) := by decide +kernel
theorem dX6_hasLearner_4 : decode cX6_hasLearner 4 = .ok (.iload_n 1, 1) := by decide +kernel
theorem dX6_hasLearner_5 : decode cX6_hasLearner 5 = .ok (.aload_n 0, 1) := by decide +kernel
theorem dX6_hasLearner_6 : decode cX6_hasLearner 6 = .ok (.getfield 18, 3) := by decide +kernel
theorem dX6_hasLearner_9 : decode cX6_hasLearner 9 = .ok (.if_icmp .ge 7, 3) := by decide +kernel
theorem dX6_hasLearner_12 : decode cX6_hasLearner 12 = .ok (.iconst 1, 1) := by decide +kernel
theorem dX6_hasLearner_13 : decode cX6_hasLearner 13 = .ok (.goto 4, 3) := by decide +kernel
theorem dX6_hasLearner_16 : decode cX6_hasLearner 16 = .ok (.iconst 0, 1) := by decide +kernel
theorem dX6_hasLearner_17 : decode cX6_hasLearner 17 = .ok (.ireturn, 1) := by decide +kernel
theorem dX6_allStreets_0 : decode cX6_allStreets 0 = .ok (.iconst 1, 1) := by decide +kernel
theorem dX6_allStreets_1 : decode cX6_allStreets 1 = .ok (.aload_n 0, 1) := by decide +kernel
theorem dX6_allStreets_2 : decode cX6_allStreets 2 = .ok (.getfield 9, 3) := by decide +kernel
theorem dX6_allStreets_5 : decode cX6_allStreets 5 = .ok (.ishl, 1) := by decide +kernel
theorem dX6_allStreets_6 : decode cX6_allStreets 6 = .ok (.iconst 1, 1) := by decide +kernel
theorem dX6_allStreets_7 : decode cX6_allStreets 7 = .ok (.isub, 1) := by decide +kernel
theorem dX6_allStreets_8 : decode cX6_allStreets 8 = .ok (.ireturn, 1) := by decide +kernel
theorem dX6_allWays_0 : decode cX6_allWays 0 = .ok (.iconst 1, 1) := by decide +kernel
theorem dX6_allWays_1 : decode cX6_allWays 1 = .ok (.aload_n 0, 1) := by decide +kernel
theorem dX6_allWays_2 : decode cX6_allWays 2 = .ok (.getfield 15, 3) := by decide +kernel
theorem dX6_allWays_5 : decode cX6_allWays 5 = .ok (.ishl, 1) := by decide +kernel
theorem dX6_allWays_6 : decode cX6_allWays 6 = .ok (.iconst 1, 1) := by decide +kernel
theorem dX6_allWays_7 : decode cX6_allWays 7 = .ok (.isub, 1) := by decide +kernel
theorem dX6_allWays_8 : decode cX6_allWays 8 = .ok (.ireturn, 1) := by decide +kernel
theorem dX6_addStreet_0 : decode cX6_addStreet 0 = .ok (.iload_n 1, 1) := by decide +kernel
theorem dX6_addStreet_1 : decode cX6_addStreet 1 = .ok (.ifCond .lt 9, 3) := by decide +kernel
theorem dX6_addStreet_4 : decode cX6_addStreet 4 = .ok (.iload_n 1, 1) := by decide +kernel
theorem dX6_addStreet_5 : decode cX6_addStreet 5 = .ok (.bipush 6, 2) := by decide +kernel
theorem dX6_addStreet_7 : decode cX6_addStreet 7 = .ok (.if_icmp .lt 6, 3) := by decide +kernel
theorem dX6_addStreet_10 : decode cX6_addStreet 10 = .ok (.bipush (-2), 2) := by decide +kernel
theorem dX6_addStreet_12 : decode cX6_addStreet 12 = .ok (.ireturn, 1) := by decide +kernel
theorem dX6_addStreet_13 : decode cX6_addStreet 13 = .ok (.iload_n 2, 1) := by decide +kernel
theorem dX6_addStreet_14 : decode cX6_addStreet 14 = .ok (.ifCond .lt 8, 3) := by decide +kernel
theorem dX6_addStreet_17 : decode cX6_addStreet 17 = .ok (.iload_n 3, 1) := by decide +kernel
theorem dX6_addStreet_18 : decode cX6_addStreet 18 = .ok (.iconst 1, 1) := by decide +kernel
theorem dX6_addStreet_19 : decode cX6_addStreet 19 = .ok (.if_icmp .ge 6, 3) := by decide +kernel
theorem dX6_addStreet_22 : decode cX6_addStreet 22 = .ok (.bipush (-4), 2) := by decide +kernel
theorem dX6_addStreet_24 : decode cX6_addStreet 24 = .ok (.ireturn, 1) := by decide +kernel
theorem dX6_addStreet_25 : decode cX6_addStreet 25 = .ok (.iload_n 2, 1) := by decide +kernel
theorem dX6_addStreet_26 : decode cX6_addStreet 26 = .ok (.bipush 9, 2) := by decide +kernel
theorem dX6_addStreet_28 : decode cX6_addStreet 28 = .ok (.if_icmp .gt 18, 3) := by decide +kernel
theorem dX6_addStreet_31 : decode cX6_addStreet 31 = .ok (.iload_n 3, 1) := by decide +kernel
theorem dX6_addStreet_32 : decode cX6_addStreet 32 = .ok (.bipush 9, 2) := by decide +kernel
theorem dX6_addStreet_34 : decode cX6_addStreet 34 = .ok (.if_icmp .gt 12, 3) := by decide +kernel
theorem dX6_addStreet_37 : decode cX6_addStreet 37 = .ok (.aload_n 0, 1) := by decide +kernel
theorem dX6_addStreet_38 : decode cX6_addStreet 38 = .ok (.getfield 9, 3) := by decide +kernel
theorem dX6_addStreet_41 : decode cX6_addStreet 41 = .ok (.bipush 8, 2) := by decide +kernel
theorem dX6_addStreet_43 : decode cX6_addStreet 43 = .ok (.if_icmp .lt 6, 3) := by decide +kernel
theorem dX6_addStreet_46 : decode cX6_addStreet 46 = .ok (.bipush (-6), 2) := by decide +kernel
theorem dX6_addStreet_48 : decode cX6_addStreet 48 = .ok (.ireturn, 1) := by decide +kernel
theorem dX6_addStreet_49 : decode cX6_addStreet 49 = .ok (.aload_n 0, 1) := by decide +kernel
theorem dX6_addStreet_50 : decode cX6_addStreet 50 = .ok (.getfield 30, 3) := by decide +kernel
theorem dX6_addStreet_53 : decode cX6_addStreet 53 = .ok (.aload_n 0, 1) := by decide +kernel
theorem dX6_addStreet_54 : decode cX6_addStreet 54 = .ok (.getfield 9, 3) := by decide +kernel
theorem dX6_addStreet_57 : decode cX6_addStreet 57 = .ok (.iload_n 1, 1) := by decide +kernel
theorem dX6_addStreet_58 : decode cX6_addStreet 58 = .ok (.invokestatic 53, 3) := by decide +kernel
theorem dX6_addStreet_61 : decode cX6_addStreet 61 = .ok (.aload_n 0, 1) := by decide +kernel
theorem dX6_addStreet_62 : decode cX6_addStreet 62 = .ok (.getfield 34, 3) := by decide +kernel
theorem dX6_addStreet_65 : decode cX6_addStreet 65 = .ok (.aload_n 0, 1) := by decide +kernel
theorem dX6_addStreet_66 : decode cX6_addStreet 66 = .ok (.getfield 9, 3) := by decide +kernel
theorem dX6_addStreet_69 : decode cX6_addStreet 69 = .ok (.iload_n 2, 1) := by decide +kernel
theorem dX6_addStreet_70 : decode cX6_addStreet 70 = .ok (.invokestatic 53, 3) := by decide +kernel
theorem dX6_addStreet_73 : decode cX6_addStreet 73 = .ok (.aload_n 0, 1) := by decide +kernel
theorem dX6_addStreet_74 : decode cX6_addStreet 74 = .ok (.getfield 37, 3) := by decide +kernel
theorem dX6_addStreet_77 : decode cX6_addStreet 77 = .ok (.aload_n 0, 1) := by decide +kernel
theorem dX6_addStreet_78 : decode cX6_addStreet 78 = .ok (.getfield 9, 3) := by decide +kernel
theorem dX6_addStreet_81 : decode cX6_addStreet 81 = .ok (.iload_n 3, 1) := by decide +kernel
theorem dX6_addStreet_82 : decode cX6_addStreet 82 = .ok (.invokestatic 53, 3) := by decide +kernel
theorem dX6_addStreet_85 : decode cX6_addStreet 85 = .ok (.aload_n 0, 1) := by decide +kernel
theorem dX6_addStreet_86 : decode cX6_addStreet 86 = .ok (.dup, 1) := by decide +kernel
theorem dX6_addStreet_87 : decode cX6_addStreet 87 = .ok (.getfield 9, 3) := by decide +kernel
theorem dX6_addStreet_90 : decode cX6_addStreet 90 = .ok (.iconst 1, 1) := by decide +kernel
theorem dX6_addStreet_91 : decode cX6_addStreet 91 = .ok (.iadd, 1) := by decide +kernel
theorem dX6_addStreet_92 : decode cX6_addStreet 92 = .ok (.putfield 9, 3) := by decide +kernel
theorem dX6_addStreet_95 : decode cX6_addStreet 95 = .ok (.aload_n 0, 1) := by decide +kernel
theorem dX6_addStreet_96 : decode cX6_addStreet 96 = .ok (.getfield 9, 3) := by decide +kernel
theorem dX6_addStreet_99 : decode cX6_addStreet 99 = .ok (.iconst 1, 1) := by decide +kernel
theorem dX6_addStreet_100 : decode cX6_addStreet 100 = .ok (.isub, 1) := by decide +kernel
theorem dX6_addStreet_101 : decode cX6_addStreet 101 = .ok (.ireturn, 1) := by decide +kernel
theorem dX6_addWay_0 : decode cX6_addWay 0 = .ok (.iload_n 1, 1) := by decide +kernel
theorem dX6_addWay_1 : decode cX6_addWay 1 = .ok (.iconst 1, 1) := by decide +kernel
theorem dX6_addWay_2 : decode cX6_addWay 2 = .ok (.if_icmp .ge 6, 3) := by decide +kernel
theorem dX6_addWay_5 : decode cX6_addWay 5 = .ok (.bipush (-4), 2) := by decide +kernel
theorem dX6_addWay_7 : decode cX6_addWay 7 = .ok (.ireturn, 1) := by decide +kernel
theorem dX6_addWay_8 : decode cX6_addWay 8 = .ok (.iload_n 1, 1) := by decide +kernel
theorem dX6_addWay_9 : decode cX6_addWay 9 = .ok (.aload_n 0, 1) := by decide +kernel
theorem dX6_addWay_10 : decode cX6_addWay 10 = .ok (.invokevirtual 57, 3) := by decide +kernel
theorem dX6_addWay_13 : decode cX6_addWay 13 = .ok (.if_icmp .gt 12, 3) := by decide +kernel
theorem dX6_addWay_16 : decode cX6_addWay 16 = .ok (.aload_n 0, 1) := by decide +kernel
theorem dX6_addWay_17 : decode cX6_addWay 17 = .ok (.getfield 15, 3) := by decide +kernel
theorem dX6_addWay_20 : decode cX6_addWay 20 = .ok (.bipush 6, 2) := by decide +kernel
theorem dX6_addWay_22 : decode cX6_addWay 22 = .ok (.if_icmp .lt 6, 3) := by decide +kernel
theorem dX6_addWay_25 : decode cX6_addWay 25 = .ok (.bipush (-6), 2) := by decide +kernel
theorem dX6_addWay_27 : decode cX6_addWay 27 = .ok (.ireturn, 1) := by decide +kernel
theorem dX6_addWay_28 : decode cX6_addWay 28 = .ok (.aload_n 0, 1) := by decide +kernel
theorem dX6_addWay_29 : decode cX6_addWay 29 = .ok (.getfield 40, 3) := by decide +kernel
theorem dX6_addWay_32 : decode cX6_addWay 32 = .ok (.aload_n 0, 1) := by decide +kernel
theorem dX6_addWay_33 : decode cX6_addWay 33 = .ok (.getfield 15, 3) := by decide +kernel
theorem dX6_addWay_36 : decode cX6_addWay 36 = .ok (.iload_n 1, 1) := by decide +kernel
theorem dX6_addWay_37 : decode cX6_addWay 37 = .ok (.invokestatic 53, 3) := by decide +kernel
theorem dX6_addWay_40 : decode cX6_addWay 40 = .ok (.aload_n 0, 1) := by decide +kernel
theorem dX6_addWay_41 : decode cX6_addWay 41 = .ok (.dup, 1) := by decide +kernel
theorem dX6_addWay_42 : decode cX6_addWay 42 = .ok (.getfield 15, 3) := by decide +kernel
theorem dX6_addWay_45 : decode cX6_addWay 45 = .ok (.iconst 1, 1) := by decide +kernel
theorem dX6_addWay_46 : decode cX6_addWay 46 = .ok (.iadd, 1) := by decide +kernel
theorem dX6_addWay_47 : decode cX6_addWay 47 = .ok (.putfield 15, 3) := by decide +kernel
theorem dX6_addWay_50 : decode cX6_addWay 50 = .ok (.aload_n 0, 1) := by decide +kernel
theorem dX6_addWay_51 : decode cX6_addWay 51 = .ok (.getfield 15, 3) := by decide +kernel
theorem dX6_addWay_54 : decode cX6_addWay 54 = .ok (.iconst 1, 1) := by decide +kernel
theorem dX6_addWay_55 : decode cX6_addWay 55 = .ok (.isub, 1) := by decide +kernel
theorem dX6_addWay_56 : decode cX6_addWay 56 = .ok (.ireturn, 1) := by decide +kernel
theorem dX6_addLearner_0 : decode cX6_addLearner 0 = .ok (.iload_n 1, 1) := by decide +kernel
theorem dX6_addLearner_1 : decode cX6_addLearner 1 = .ok (.ifCond .ge 6, 3) := by decide +kernel
theorem dX6_addLearner_4 : decode cX6_addLearner 4 = .ok (.bipush (-4), 2) := by decide +kernel
theorem dX6_addLearner_6 : decode cX6_addLearner 6 = .ok (.ireturn, 1) := by decide +kernel
theorem dX6_addLearner_7 : decode cX6_addLearner 7 = .ok (.iload_n 1, 1) := by decide +kernel
theorem dX6_addLearner_8 : decode cX6_addLearner 8 = .ok (.bipush 9, 2) := by decide +kernel
theorem dX6_addLearner_10 : decode cX6_addLearner 10 = .ok (.if_icmp .gt 11, 3) := by decide +kernel
theorem dX6_addLearner_13 : decode cX6_addLearner 13 = .ok (.aload_n 0, 1) := by decide +kernel
theorem dX6_addLearner_14 : decode cX6_addLearner 14 = .ok (.getfield 18, 3) := by decide +kernel
theorem dX6_addLearner_17 : decode cX6_addLearner 17 = .ok (.iconst 5, 1) := by decide +kernel
theorem dX6_addLearner_18 : decode cX6_addLearner 18 = .ok (.if_icmp .lt 6, 3) := by decide +kernel
theorem dX6_addLearner_21 : decode cX6_addLearner 21 = .ok (.bipush (-6), 2) := by decide +kernel
theorem dX6_addLearner_23 : decode cX6_addLearner 23 = .ok (.ireturn, 1) := by decide +kernel
theorem dX6_addLearner_24 : decode cX6_addLearner 24 = .ok (.aload_n 0, 1) := by decide +kernel
theorem dX6_addLearner_25 : decode cX6_addLearner 25 = .ok (.getfield 43, 3) := by decide +kernel
theorem dX6_addLearner_28 : decode cX6_addLearner 28 = .ok (.aload_n 0, 1) := by decide +kernel
theorem dX6_addLearner_29 : decode cX6_addLearner 29 = .ok (.getfield 18, 3) := by decide +kernel
theorem dX6_addLearner_32 : decode cX6_addLearner 32 = .ok (.iload_n 1, 1) := by decide +kernel
theorem dX6_addLearner_33 : decode cX6_addLearner 33 = .ok (.invokestatic 53, 3) := by decide +kernel
theorem dX6_addLearner_36 : decode cX6_addLearner 36 = .ok (.aload_n 0, 1) := by decide +kernel
theorem dX6_addLearner_37 : decode cX6_addLearner 37 = .ok (.getfield 46, 3) := by decide +kernel
theorem dX6_addLearner_40 : decode cX6_addLearner 40 = .ok (.aload_n 0, 1) := by decide +kernel
theorem dX6_addLearner_41 : decode cX6_addLearner 41 = .ok (.getfield 18, 3) := by decide +kernel
theorem dX6_addLearner_44 : decode cX6_addLearner 44 = .ok (.iconst 0, 1) := by decide +kernel
theorem dX6_addLearner_45 : decode cX6_addLearner 45 = .ok (.invokestatic 53, 3) := by decide +kernel
theorem dX6_addLearner_48 : decode cX6_addLearner 48 = .ok (.aload_n 0, 1) := by decide +kernel
theorem dX6_addLearner_49 : decode cX6_addLearner 49 = .ok (.dup, 1) := by decide +kernel
theorem dX6_addLearner_50 : decode cX6_addLearner 50 = .ok (.getfield 18, 3) := by decide +kernel
theorem dX6_addLearner_53 : decode cX6_addLearner 53 = .ok (.iconst 1, 1) := by decide +kernel
theorem dX6_addLearner_54 : decode cX6_addLearner 54 = .ok (.iadd, 1) := by decide +kernel
theorem dX6_addLearner_55 : decode cX6_addLearner 55 = .ok (.putfield 18, 3) := by decide +kernel
theorem dX6_addLearner_58 : decode cX6_addLearner 58 = .ok (.aload_n 0, 1) := by decide +kernel
theorem dX6_addLearner_59 : decode cX6_addLearner 59 = .ok (.getfield 18, 3) := by decide +kernel
theorem dX6_addLearner_62 : decode cX6_addLearner 62 = .ok (.iconst 1, 1) := by decide +kernel
theorem dX6_addLearner_63 : decode cX6_addLearner 63 = .ok (.isub, 1) := by decide +kernel
theorem dX6_addLearner_64 : decode cX6_addLearner 64 = .ok (.ireturn, 1) := by decide +kernel
theorem dX6_test_0 : decode cX6_test 0 = .ok (.aload_n 0, 1) := by decide +kernel
theorem dX6_test_1 : decode cX6_test 1 = .ok (.iload_n 1, 1) := by decide +kernel
theorem dX6_test_2 : decode cX6_test 2 = .ok (.invokevirtual 61, 3) := by decide +kernel
theorem dX6_test_5 : decode cX6_test 5 = .ok (.ifCond .eq 11, 3) := by decide +kernel
theorem dX6_test_8 : decode cX6_test 8 = .ok (.aload_n 0, 1) := by decide +kernel
theorem dX6_test_9 : decode cX6_test 9 = .ok (.iload_n 2, 1) := by decide +kernel
theorem dX6_test_10 : decode cX6_test 10 = .ok (.invokevirtual 65, 3) := by decide +kernel
theorem dX6_test_13 : decode cX6_test 13 = .ok (.ifCond .ne 5, 3) := by decide +kernel
theorem dX6_test_16 : decode cX6_test 16 = .ok (.iconst (-1), 1) := by decide +kernel
theorem dX6_test_17 : decode cX6_test 17 = .ok (.ireturn, 1) := by decide +kernel
theorem dX6_test_18 : decode cX6_test 18 = .ok (.aload_n 0, 1) := by decide +kernel
theorem dX6_test_19 : decode cX6_test 19 = .ok (.iload_n 1, 1) := by decide +kernel
theorem dX6_test_20 : decode cX6_test 20 = .ok (.iload_n 2, 1) := by decide +kernel
theorem dX6_test_21 : decode cX6_test 21 = .ok (.aload_n 0, 1) := by decide +kernel
theorem dX6_test_22 : decode cX6_test 22 = .ok (.getfield 21, 3) := by decide +kernel
theorem dX6_test_25 : decode cX6_test 25 = .ok (.invokevirtual 68, 3) := by decide +kernel
theorem dX6_test_28 : decode cX6_test 28 = .ok (.ifCond .eq 7, 3) := by decide +kernel
theorem dX6_test_31 : decode cX6_test 31 = .ok (.iconst 1, 1) := by decide +kernel
theorem dX6_test_32 : decode cX6_test 32 = .ok (.goto 4, 3) := by decide +kernel
theorem dX6_test_35 : decode cX6_test 35 = .ok (.iconst 0, 1) := by decide +kernel
theorem dX6_test_36 : decode cX6_test 36 = .ok (.istore_n 3, 1) := by decide +kernel
theorem dX6_test_37 : decode cX6_test 37 = .ok (.aload_n 0, 1) := by decide +kernel
theorem dX6_test_38 : decode cX6_test 38 = .ok (.getfield 46, 3) := by decide +kernel
theorem dX6_test_41 : decode cX6_test 41 = .ok (.iload_n 1, 1) := by decide +kernel
theorem dX6_test_42 : decode cX6_test 42 = .ok (.aload_n 0, 1) := by decide +kernel
theorem dX6_test_43 : decode cX6_test 43 = .ok (.getfield 46, 3) := by decide +kernel
theorem dX6_test_46 : decode cX6_test 46 = .ok (.iload_n 1, 1) := by decide +kernel
theorem dX6_test_47 : decode cX6_test 47 = .ok (.invokestatic 72, 3) := by decide +kernel
theorem dX6_test_50 : decode cX6_test 50 = .ok (.aload_n 0, 1) := by decide +kernel
theorem dX6_test_51 : decode cX6_test 51 = .ok (.getfield 40, 3) := by decide +kernel
theorem dX6_test_54 : decode cX6_test 54 = .ok (.iload_n 2, 1) := by decide +kernel
theorem dX6_test_55 : decode cX6_test 55 = .ok (.invokestatic 72, 3) := by decide +kernel
theorem dX6_test_58 : decode cX6_test 58 = .ok (.ior, 1) := by decide +kernel
theorem dX6_test_59 : decode cX6_test 59 = .ok (.invokestatic 53, 3) := by decide +kernel
theorem dX6_test_62 : decode cX6_test 62 = .ok (.iload_n 3, 1) := by decide +kernel
theorem dX6_test_63 : decode cX6_test 63 = .ok (.ireturn, 1) := by decide +kernel
theorem dX6_turnKnown_0 : decode cX6_turnKnown 0 = .ok (.aload_n 0, 1) := by decide +kernel
theorem dX6_turnKnown_1 : decode cX6_turnKnown 1 = .ok (.iload_n 1, 1) := by decide +kernel
theorem dX6_turnKnown_2 : decode cX6_turnKnown 2 = .ok (.invokevirtual 61, 3) := by decide +kernel
theorem dX6_turnKnown_5 : decode cX6_turnKnown 5 = .ok (.ifCond .eq 11, 3) := by decide +kernel
theorem dX6_turnKnown_8 : decode cX6_turnKnown 8 = .ok (.aload_n 0, 1) := by decide +kernel
theorem dX6_turnKnown_9 : decode cX6_turnKnown 9 = .ok (.iload_n 2, 1) := by decide +kernel
theorem dX6_turnKnown_10 : decode cX6_turnKnown 10 = .ok (.invokevirtual 76, 3) := by decide +kernel
theorem dX6_turnKnown_13 : decode cX6_turnKnown 13 = .ok (.ifCond .ne 5, 3) := by decide +kernel
theorem dX6_turnKnown_16 : decode cX6_turnKnown 16 = .ok (.iconst (-1), 1) := by decide +kernel
theorem dX6_turnKnown_17 : decode cX6_turnKnown 17 = .ok (.ireturn, 1) := by decide +kernel
theorem dX6_turnKnown_18 : decode cX6_turnKnown 18 = .ok (.aload_n 0, 1) := by decide +kernel
theorem dX6_turnKnown_19 : decode cX6_turnKnown 19 = .ok (.getfield 46, 3) := by decide +kernel
theorem dX6_turnKnown_22 : decode cX6_turnKnown 22 = .ok (.iload_n 1, 1) := by decide +kernel
theorem dX6_turnKnown_23 : decode cX6_turnKnown 23 = .ok (.invokestatic 72, 3) := by decide +kernel
theorem dX6_turnKnown_26 : decode cX6_turnKnown 26 = .ok (.iconst 1, 1) := by decide +kernel
theorem dX6_turnKnown_27 : decode cX6_turnKnown 27 = .ok (.iload_n 2, 1) := by decide +kernel
theorem dX6_turnKnown_28 : decode cX6_turnKnown 28 = .ok (.ishl, 1) := by decide +kernel
theorem dX6_turnKnown_29 : decode cX6_turnKnown 29 = .ok (.ixor, 1) := by decide +kernel
theorem dX6_turnKnown_30 : decode cX6_turnKnown 30 = .ok (.istore_n 3, 1) := by decide +kernel
theorem dX6_turnKnown_31 : decode cX6_turnKnown 31 = .ok (.aload_n 0, 1) := by decide +kernel
theorem dX6_turnKnown_32 : decode cX6_turnKnown 32 = .ok (.getfield 46, 3) := by decide +kernel
theorem dX6_turnKnown_35 : decode cX6_turnKnown 35 = .ok (.iload_n 1, 1) := by decide +kernel
theorem dX6_turnKnown_36 : decode cX6_turnKnown 36 = .ok (.iload_n 3, 1) := by decide +kernel
theorem dX6_turnKnown_37 : decode cX6_turnKnown 37 = .ok (.invokestatic 53, 3) := by decide +kernel
theorem dX6_turnKnown_40 : decode cX6_turnKnown 40 = .ok (.iload_n 3, 1) := by decide +kernel
theorem dX6_turnKnown_41 : decode cX6_turnKnown 41 = .ok (.iload_n 2, 1) := by decide +kernel
theorem dX6_turnKnown_42 : decode cX6_turnKnown 42 = .ok (.invokestatic 79, 3) := by decide +kernel
theorem dX6_turnKnown_45 : decode cX6_turnKnown 45 = .ok (.ifCond .eq 7, 3) := by decide +kernel
theorem dX6_turnKnown_48 : decode cX6_turnKnown 48 = .ok (.iconst 1, 1) := by decide +kernel
theorem dX6_turnKnown_49 : decode cX6_turnKnown 49 = .ok (.goto 4, 3) := by decide +kernel
theorem dX6_turnKnown_52 : decode cX6_turnKnown 52 = .ok (.iconst 0, 1) := by decide +kernel
theorem dX6_turnKnown_53 : decode cX6_turnKnown 53 = .ok (.ireturn, 1) := by decide +kernel
theorem dX6_change_0 : decode cX6_change 0 = .ok (.iload_n 1, 1) := by decide +kernel
theorem dX6_change_1 : decode cX6_change 1 = .ok (.invokestatic 83, 3) := by decide +kernel
theorem dX6_change_4 : decode cX6_change 4 = .ok (.ifCond .ne 6, 3) := by decide +kernel
theorem dX6_change_7 : decode cX6_change 7 = .ok (.bipush (-2), 2) := by decide +kernel
theorem dX6_change_9 : decode cX6_change 9 = .ok (.ireturn, 1) := by decide +kernel
theorem dX6_change_10 : decode cX6_change 10 = .ok (.iload_n 2, 1) := by decide +kernel
theorem dX6_change_11 : decode cX6_change 11 = .ok (.ifCond .ge 6, 3) := by decide +kernel
theorem dX6_change_14 : decode cX6_change 14 = .ok (.bipush (-4), 2) := by decide +kernel
theorem dX6_change_16 : decode cX6_change 16 = .ok (.ireturn, 1) := by decide +kernel
theorem dX6_change_17 : decode cX6_change 17 = .ok (.iload_n 2, 1) := by decide +kernel
theorem dX6_change_18 : decode cX6_change 18 = .ok (.iload_n 1, 1) := by decide +kernel
theorem dX6_change_19 : decode cX6_change 19 = .ok (.ifCond .ne 8, 3) := by decide +kernel
theorem dX6_change_22 : decode cX6_change 22 = .ok (.bipush 23, 2) := by decide +kernel
theorem dX6_change_24 : decode cX6_change 24 = .ok (.goto 5, 3) := by decide +kernel
theorem dX6_change_27 : decode cX6_change 27 = .ok (.bipush 99, 2) := by decide +kernel
theorem dX6_change_29 : decode cX6_change 29 = .ok (.if_icmp .le 6, 3) := by decide +kernel
theorem dX6_change_32 : decode cX6_change 32 = .ok (.bipush (-6), 2) := by decide +kernel
theorem dX6_change_34 : decode cX6_change 34 = .ok (.ireturn, 1) := by decide +kernel
theorem dX6_change_35 : decode cX6_change 35 = .ok (.iload_n 1, 1) := by decide +kernel
theorem dX6_change_36 : decode cX6_change 36 = .ok (.ifCond .ne 10, 3) := by decide +kernel
theorem dX6_change_39 : decode cX6_change 39 = .ok (.aload_n 0, 1) := by decide +kernel
theorem dX6_change_40 : decode cX6_change 40 = .ok (.getfield 21, 3) := by decide +kernel
theorem dX6_change_43 : decode cX6_change 43 = .ok (.goto 7, 3) := by decide +kernel
theorem dX6_change_46 : decode cX6_change 46 = .ok (.aload_n 0, 1) := by decide +kernel
theorem dX6_change_47 : decode cX6_change 47 = .ok (.getfield 24, 3) := by decide +kernel
theorem dX6_change_50 : decode cX6_change 50 = .ok (.istore_n 3, 1) := by decide +kernel
theorem dX6_change_51 : decode cX6_change 51 = .ok (.iload_n 1, 1) := by decide +kernel
theorem dX6_change_52 : decode cX6_change 52 = .ok (.ifCond .ne 11, 3) := by decide +kernel
theorem dX6_change_55 : decode cX6_change 55 = .ok (.aload_n 0, 1) := by decide +kernel
theorem dX6_change_56 : decode cX6_change 56 = .ok (.iload_n 2, 1) := by decide +kernel
theorem dX6_change_57 : decode cX6_change 57 = .ok (.putfield 21, 3) := by decide +kernel
theorem dX6_change_60 : decode cX6_change 60 = .ok (.goto 8, 3) := by decide +kernel
theorem dX6_change_63 : decode cX6_change 63 = .ok (.aload_n 0, 1) := by decide +kernel
theorem dX6_change_64 : decode cX6_change 64 = .ok (.iload_n 2, 1) := by decide +kernel
theorem dX6_change_65 : decode cX6_change 65 = .ok (.putfield 24, 3) := by decide +kernel
theorem dX6_change_68 : decode cX6_change 68 = .ok (.iload_n 3, 1) := by decide +kernel
theorem dX6_change_69 : decode cX6_change 69 = .ok (.ireturn, 1) := by decide +kernel
theorem dX6_nextDay_0 : decode cX6_nextDay 0 = .ok (.aload_n 0, 1) := by decide +kernel
theorem dX6_nextDay_1 : decode cX6_nextDay 1 = .ok (.getfield 27, 3) := by decide +kernel
theorem dX6_nextDay_4 : decode cX6_nextDay 4 = .ok (.sipush 999, 3) := by decide +kernel
theorem dX6_nextDay_7 : decode cX6_nextDay 7 = .ok (.if_icmp .lt 6, 3) := by decide +kernel
theorem dX6_nextDay_10 : decode cX6_nextDay 10 = .ok (.bipush (-6), 2) := by decide +kernel
theorem dX6_nextDay_12 : decode cX6_nextDay 12 = .ok (.ireturn, 1) := by decide +kernel
theorem dX6_nextDay_13 : decode cX6_nextDay 13 = .ok (.aload_n 0, 1) := by decide +kernel
theorem dX6_nextDay_14 : decode cX6_nextDay 14 = .ok (.dup, 1) := by decide +kernel
theorem dX6_nextDay_15 : decode cX6_nextDay 15 = .ok (.getfield 27, 3) := by decide +kernel
theorem dX6_nextDay_18 : decode cX6_nextDay 18 = .ok (.iconst 1, 1) := by decide +kernel
theorem dX6_nextDay_19 : decode cX6_nextDay 19 = .ok (.iadd, 1) := by decide +kernel
theorem dX6_nextDay_20 : decode cX6_nextDay 20 = .ok (.putfield 27, 3) := by decide +kernel
theorem dX6_nextDay_23 : decode cX6_nextDay 23 = .ok (.aload_n 0, 1) := by decide +kernel
theorem dX6_nextDay_24 : decode cX6_nextDay 24 = .ok (.bipush 8, 2) := by decide +kernel
theorem dX6_nextDay_26 : decode cX6_nextDay 26 = .ok (.putfield 21, 3) := by decide +kernel
theorem dX6_nextDay_29 : decode cX6_nextDay 29 = .ok (.iconst 0, 1) := by decide +kernel
theorem dX6_nextDay_30 : decode cX6_nextDay 30 = .ok (.istore_n 1, 1) := by decide +kernel
theorem dX6_nextDay_31 : decode cX6_nextDay 31 = .ok (.iload_n 1, 1) := by decide +kernel
theorem dX6_nextDay_32 : decode cX6_nextDay 32 = .ok (.aload_n 0, 1) := by decide +kernel
theorem dX6_nextDay_33 : decode cX6_nextDay 33 = .ok (.getfield 18, 3) := by decide +kernel
theorem dX6_nextDay_36 : decode cX6_nextDay 36 = .ok (.if_icmp .ge 28, 3) := by decide +kernel
theorem dX6_nextDay_39 : decode cX6_nextDay 39 = .ok (.aload_n 0, 1) := by decide +kernel
theorem dX6_nextDay_40 : decode cX6_nextDay 40 = .ok (.getfield 46, 3) := by decide +kernel
theorem dX6_nextDay_43 : decode cX6_nextDay 43 = .ok (.iload_n 1, 1) := by decide +kernel
theorem dX6_nextDay_44 : decode cX6_nextDay 44 = .ok (.aload_n 0, 1) := by decide +kernel
theorem dX6_nextDay_45 : decode cX6_nextDay 45 = .ok (.getfield 46, 3) := by decide +kernel
theorem dX6_nextDay_48 : decode cX6_nextDay 48 = .ok (.iload_n 1, 1) := by decide +kernel
theorem dX6_nextDay_49 : decode cX6_nextDay 49 = .ok (.invokestatic 72, 3) := by decide +kernel
theorem dX6_nextDay_52 : decode cX6_nextDay 52 = .ok (.invokestatic 86, 3) := by decide +kernel
theorem dX6_nextDay_55 : decode cX6_nextDay 55 = .ok (.invokestatic 53, 3) := by decide +kernel
theorem dX6_nextDay_58 : decode cX6_nextDay 58 = .ok (.iinc 1 1, 3) := by decide +kernel
theorem dX6_nextDay_61 : decode cX6_nextDay 61 = .ok (.goto (-30), 3) := by decide +kernel
theorem dX6_nextDay_64 : decode cX6_nextDay 64 = .ok (.aload_n 0, 1) := by decide +kernel
theorem dX6_nextDay_65 : decode cX6_nextDay 65 = .ok (.getfield 27, 3) := by decide +kernel
theorem dX6_nextDay_68 : decode cX6_nextDay 68 = .ok (.ireturn, 1) := by decide +kernel
theorem dX6_withoutGreatest_0 : decode cX6_withoutGreatest 0 = .ok (.bipush 7, 2) := by decide +kernel
theorem dX6_withoutGreatest_2 : decode cX6_withoutGreatest 2 = .ok (.istore_n 1, 1) := by decide +kernel
theorem dX6_withoutGreatest_3 : decode cX6_withoutGreatest 3 = .ok (.iload_n 1, 1) := by decide +kernel
theorem dX6_withoutGreatest_4 : decode cX6_withoutGreatest 4 = .ok (.ifCond .lt 23, 3) := by decide +kernel
theorem dX6_withoutGreatest_7 : decode cX6_withoutGreatest 7 = .ok (.iload_n 0, 1) := by decide +kernel
theorem dX6_withoutGreatest_8 : decode cX6_withoutGreatest 8 = .ok (.iload_n 1, 1) := by decide +kernel
theorem dX6_withoutGreatest_9 : decode cX6_withoutGreatest 9 = .ok (.invokestatic 79, 3) := by decide +kernel
theorem dX6_withoutGreatest_12 : decode cX6_withoutGreatest 12 = .ok (.ifCond .eq 9, 3) := by decide +kernel
theorem dX6_withoutGreatest_15 : decode cX6_withoutGreatest 15 = .ok (.iload_n 0, 1) := by decide +kernel
theorem dX6_withoutGreatest_16 : decode cX6_withoutGreatest 16 = .ok (.iconst 1, 1) := by decide +kernel
theorem dX6_withoutGreatest_17 : decode cX6_withoutGreatest 17 = .ok (.iload_n 1, 1) := by decide +kernel
theorem dX6_withoutGreatest_18 : decode cX6_withoutGreatest 18 = .ok (.ishl, 1) := by decide +kernel
theorem dX6_withoutGreatest_19 : decode cX6_withoutGreatest 19 = .ok (.ixor, 1) := by decide +kernel
theorem dX6_withoutGreatest_20 : decode cX6_withoutGreatest 20 = .ok (.ireturn, 1) := by decide +kernel
theorem dX6_withoutGreatest_21 : decode cX6_withoutGreatest 21 = .ok (.iinc 1 (-1), 3) := by decide +kernel
theorem dX6_withoutGreatest_24 : decode cX6_withoutGreatest 24 = .ok (.goto (-21), 3) := by decide +kernel
theorem dX6_withoutGreatest_27 : decode cX6_withoutGreatest 27 = .ok (.iload_n 0, 1) := by decide +kernel
theorem dX6_withoutGreatest_28 : decode cX6_withoutGreatest 28 = .ok (.ireturn, 1) := by decide +kernel
theorem dX6_hardOf_0 : decode cX6_hardOf 0 = .ok (.aload_n 0, 1) := by decide +kernel
theorem dX6_hardOf_1 : decode cX6_hardOf 1 = .ok (.getfield 34, 3) := by decide +kernel
theorem dX6_hardOf_4 : decode cX6_hardOf 4 = .ok (.iload_n 1, 1) := by decide +kernel
theorem dX6_hardOf_5 : decode cX6_hardOf 5 = .ok (.invokestatic 72, 3) := by decide +kernel
theorem dX6_hardOf_8 : decode cX6_hardOf 8 = .ok (.istore_n 3, 1) := by decide +kernel
theorem dX6_hardOf_9 : decode cX6_hardOf 9 = .ok (.aload_n 0, 1) := by decide +kernel
theorem dX6_hardOf_10 : decode cX6_hardOf 10 = .ok (.getfield 30, 3) := by decide +kernel
theorem dX6_hardOf_13 : decode cX6_hardOf 13 = .ok (.iload_n 1, 1) := by decide +kernel
theorem dX6_hardOf_14 : decode cX6_hardOf 14 = .ok (.invokestatic 72, 3) := by decide +kernel
theorem dX6_hardOf_17 : decode cX6_hardOf 17 = .ok (.tableswitch 83 1 5 #[35, 39, 46, 70, 74], 35) := by decide +kernel
theorem dX6_hardOf_52 : decode cX6_hardOf 52 = .ok (.iload_n 3, 1) := by decide +kernel
theorem dX6_hardOf_53 : decode cX6_hardOf 53 = .ok (.iconst 2, 1) := by decide +kernel
theorem dX6_hardOf_54 : decode cX6_hardOf 54 = .ok (.iadd, 1) := by decide +kernel
theorem dX6_hardOf_55 : decode cX6_hardOf 55 = .ok (.ireturn, 1) := by decide +kernel
theorem dX6_hardOf_56 : decode cX6_hardOf 56 = .ok (.iload_n 3, 1) := by decide +kernel
theorem dX6_hardOf_57 : decode cX6_hardOf 57 = .ok (.iload_n 2, 1) := by decide +kernel
theorem dX6_hardOf_58 : decode cX6_hardOf 58 = .ok (.invokestatic 90, 3) := by decide +kernel
theorem dX6_hardOf_61 : decode cX6_hardOf 61 = .ok (.iadd, 1) := by decide +kernel
theorem dX6_hardOf_62 : decode cX6_hardOf 62 = .ok (.ireturn, 1) := by decide +kernel
theorem dX6_hardOf_63 : decode cX6_hardOf 63 = .ok (.iload_n 2, 1) := by decide +kernel
theorem dX6_hardOf_64 : decode cX6_hardOf 64 = .ok (.bipush 8, 2) := by decide +kernel
theorem dX6_hardOf_66 : decode cX6_hardOf 66 = .ok (.if_icmp .eq 9, 3) := by decide +kernel
theorem dX6_hardOf_69 : decode cX6_hardOf 69 = .ok (.iload_n 2, 1) := by decide +kernel
theorem dX6_hardOf_70 : decode cX6_hardOf 70 = .ok (.bipush 15, 2) := by decide +kernel
theorem dX6_hardOf_72 : decode cX6_hardOf 72 = .ok (.if_icmp .ne 11, 3) := by decide +kernel
theorem dX6_hardOf_75 : decode cX6_hardOf 75 = .ok (.iconst 2, 1) := by decide +kernel
theorem dX6_hardOf_76 : decode cX6_hardOf 76 = .ok (.iload_n 3, 1) := by decide +kernel
theorem dX6_hardOf_77 : decode cX6_hardOf 77 = .ok (.iconst 2, 1) := by decide +kernel
theorem dX6_hardOf_78 : decode cX6_hardOf 78 = .ok (.iadd, 1) := by decide +kernel
theorem dX6_hardOf_79 : decode cX6_hardOf 79 = .ok (.imul, 1) := by decide +kernel
theorem dX6_hardOf_80 : decode cX6_hardOf 80 = .ok (.goto 6, 3) := by decide +kernel
theorem dX6_hardOf_83 : decode cX6_hardOf 83 = .ok (.iload_n 3, 1) := by decide +kernel
theorem dX6_hardOf_84 : decode cX6_hardOf 84 = .ok (.iconst 2, 1) := by decide +kernel
theorem dX6_hardOf_85 : decode cX6_hardOf 85 = .ok (.iadd, 1) := by decide +kernel
theorem dX6_hardOf_86 : decode cX6_hardOf 86 = .ok (.ireturn, 1) := by decide +kernel
theorem dX6_hardOf_87 : decode cX6_hardOf 87 = .ok (.iload_n 3, 1) := by decide +kernel
theorem dX6_hardOf_88 : decode cX6_hardOf 88 = .ok (.iconst 2, 1) := by decide +kernel
theorem dX6_hardOf_89 : decode cX6_hardOf 89 = .ok (.idiv, 1) := by decide +kernel
theorem dX6_hardOf_90 : decode cX6_hardOf 90 = .ok (.ireturn, 1) := by decide +kernel
theorem dX6_hardOf_91 : decode cX6_hardOf 91 = .ok (.iload_n 3, 1) := by decide +kernel
theorem dX6_hardOf_92 : decode cX6_hardOf 92 = .ok (.iload_n 2, 1) := by decide +kernel
theorem dX6_hardOf_93 : decode cX6_hardOf 93 = .ok (.invokestatic 90, 3) := by decide +kernel
theorem dX6_hardOf_96 : decode cX6_hardOf 96 = .ok (.iadd, 1) := by decide +kernel
theorem dX6_hardOf_97 : decode cX6_hardOf 97 = .ok (.iconst 1, 1) := by decide +kernel
theorem dX6_hardOf_98 : decode cX6_hardOf 98 = .ok (.iadd, 1) := by decide +kernel
theorem dX6_hardOf_99 : decode cX6_hardOf 99 = .ok (.ireturn, 1) := by decide +kernel
theorem dX6_hardOf_100 : decode cX6_hardOf 100 = .ok (.iload_n 3, 1) := by decide +kernel
theorem dX6_hardOf_101 : decode cX6_hardOf 101 = .ok (.ireturn, 1) := by decide +kernel
theorem dX6_ringMore_0 : decode cX6_ringMore 0 = .ok (.iload_n 0, 1) := by decide +kernel
theorem dX6_ringMore_1 : decode cX6_ringMore 1 = .ok (.bipush 15, 2) := by decide +kernel
theorem dX6_ringMore_3 : decode cX6_ringMore 3 = .ok (.if_icmp .lt 13, 3) := by decide +kernel
theorem dX6_ringMore_6 : decode cX6_ringMore 6 = .ok (.iload_n 0, 1) := by decide +kernel
theorem dX6_ringMore_7 : decode cX6_ringMore 7 = .ok (.bipush 17, 2) := by decide +kernel
theorem dX6_ringMore_9 : decode cX6_ringMore 9 = .ok (.if_icmp .gt 7, 3) := by decide +kernel
theorem dX6_ringMore_12 : decode cX6_ringMore 12 = .ok (.iconst 3, 1) := by decide +kernel
theorem dX6_ringMore_13 : decode cX6_ringMore 13 = .ok (.goto 4, 3) := by decide +kernel
theorem dX6_ringMore_16 : decode cX6_ringMore 16 = .ok (.iconst 1, 1) := by decide +kernel
theorem dX6_ringMore_17 : decode cX6_ringMore 17 = .ok (.ireturn, 1) := by decide +kernel
theorem dX6_ballOf_0 : decode cX6_ballOf 0 = .ok (.aload_n 0, 1) := by decide +kernel
theorem dX6_ballOf_1 : decode cX6_ballOf 1 = .ok (.getfield 30, 3) := by decide +kernel
theorem dX6_ballOf_4 : decode cX6_ballOf 4 = .ok (.iload_n 1, 1) := by decide +kernel
theorem dX6_ballOf_5 : decode cX6_ballOf 5 = .ok (.invokestatic 72, 3) := by decide +kernel
theorem dX6_ballOf_8 : decode cX6_ballOf 8 = .ok (.tableswitch 40 2 5 #[32, 34, 36, 38], 32) := by decide +kernel
theorem dX6_ballOf_40 : decode cX6_ballOf 40 = .ok (.iconst 3, 1) := by decide +kernel
theorem dX6_ballOf_41 : decode cX6_ballOf 41 = .ok (.ireturn, 1) := by decide +kernel
theorem dX6_ballOf_42 : decode cX6_ballOf 42 = .ok (.iconst 4, 1) := by decide +kernel
theorem dX6_ballOf_43 : decode cX6_ballOf 43 = .ok (.ireturn, 1) := by decide +kernel
theorem dX6_ballOf_44 : decode cX6_ballOf 44 = .ok (.iconst 0, 1) := by decide +kernel
theorem dX6_ballOf_45 : decode cX6_ballOf 45 = .ok (.ireturn, 1) := by decide +kernel
theorem dX6_ballOf_46 : decode cX6_ballOf 46 = .ok (.iconst 3, 1) := by decide +kernel
theorem dX6_ballOf_47 : decode cX6_ballOf 47 = .ok (.ireturn, 1) := by decide +kernel
theorem dX6_ballOf_48 : decode cX6_ballOf 48 = .ok (.iconst 1, 1) := by decide +kernel
theorem dX6_ballOf_49 : decode cX6_ballOf 49 = .ok (.ireturn, 1) := by decide +kernel
theorem dX6_minutesOn_0 : decode cX6_minutesOn 0 = .ok (.iconst 0, 1) := by decide +kernel
theorem dX6_minutesOn_1 : decode cX6_minutesOn 1 = .ok (.istore_n 2, 1) := by decide +kernel
theorem dX6_minutesOn_2 : decode cX6_minutesOn 2 = .ok (.iconst 0, 1) := by decide +kernel
theorem dX6_minutesOn_3 : decode cX6_minutesOn 3 = .ok (.istore_n 3, 1) := by decide +kernel
theorem dX6_minutesOn_4 : decode cX6_minutesOn 4 = .ok (.iload_n 3, 1) := by decide +kernel
theorem dX6_minutesOn_5 : decode cX6_minutesOn 5 = .ok (.aload_n 0, 1) := by decide +kernel
theorem dX6_minutesOn_6 : decode cX6_minutesOn 6 = .ok (.getfield 9, 3) := by decide +kernel
theorem dX6_minutesOn_9 : decode cX6_minutesOn 9 = .ok (.if_icmp .ge 28, 3) := by decide +kernel
theorem dX6_minutesOn_12 : decode cX6_minutesOn 12 = .ok (.iload_n 1, 1) := by decide +kernel
theorem dX6_minutesOn_13 : decode cX6_minutesOn 13 = .ok (.iload_n 3, 1) := by decide +kernel
theorem dX6_minutesOn_14 : decode cX6_minutesOn 14 = .ok (.invokestatic 79, 3) := by decide +kernel
theorem dX6_minutesOn_17 : decode cX6_minutesOn 17 = .ok (.ifCond .eq 14, 3) := by decide +kernel
theorem dX6_minutesOn_20 : decode cX6_minutesOn 20 = .ok (.iload_n 2, 1) := by decide +kernel
theorem dX6_minutesOn_21 : decode cX6_minutesOn 21 = .ok (.aload_n 0, 1) := by decide +kernel
theorem dX6_minutesOn_22 : decode cX6_minutesOn 22 = .ok (.getfield 37, 3) := by decide +kernel
theorem dX6_minutesOn_25 : decode cX6_minutesOn 25 = .ok (.iload_n 3, 1) := by decide +kernel
theorem dX6_minutesOn_26 : decode cX6_minutesOn 26 = .ok (.invokestatic 72, 3) := by decide +kernel
theorem dX6_minutesOn_29 : decode cX6_minutesOn 29 = .ok (.iadd, 1) := by decide +kernel
theorem dX6_minutesOn_30 : decode cX6_minutesOn 30 = .ok (.istore_n 2, 1) := by decide +kernel
theorem dX6_minutesOn_31 : decode cX6_minutesOn 31 = .ok (.iinc 3 1, 3) := by decide +kernel
theorem dX6_minutesOn_34 : decode cX6_minutesOn 34 = .ok (.goto (-30), 3) := by decide +kernel
theorem dX6_minutesOn_37 : decode cX6_minutesOn 37 = .ok (.iload_n 2, 1) := by decide +kernel
theorem dX6_minutesOn_38 : decode cX6_minutesOn 38 = .ok (.ireturn, 1) := by decide +kernel
theorem dX6_hardOn_0 : decode cX6_hardOn 0 = .ok (.iconst 0, 1) := by decide +kernel
theorem dX6_hardOn_1 : decode cX6_hardOn 1 = .ok (.istore_n 3, 1) := by decide +kernel
theorem dX6_hardOn_2 : decode cX6_hardOn 2 = .ok (.iconst 0, 1) := by decide +kernel
theorem dX6_hardOn_3 : decode cX6_hardOn 3 = .ok (.istore 4, 2) := by decide +kernel
theorem dX6_hardOn_5 : decode cX6_hardOn 5 = .ok (.iload 4, 2) := by decide +kernel
theorem dX6_hardOn_7 : decode cX6_hardOn 7 = .ok (.aload_n 0, 1) := by decide +kernel
theorem dX6_hardOn_8 : decode cX6_hardOn 8 = .ok (.getfield 9, 3) := by decide +kernel
theorem dX6_hardOn_11 : decode cX6_hardOn 11 = .ok (.if_icmp .ge 28, 3) := by decide +kernel
theorem dX6_hardOn_14 : decode cX6_hardOn 14 = .ok (.iload_n 1, 1) := by decide +kernel
theorem dX6_hardOn_15 : decode cX6_hardOn 15 = .ok (.iload 4, 2) := by decide +kernel
theorem dX6_hardOn_17 : decode cX6_hardOn 17 = .ok (.invokestatic 79, 3) := by decide +kernel
theorem dX6_hardOn_20 : decode cX6_hardOn 20 = .ok (.ifCond .eq 13, 3) := by decide +kernel
theorem dX6_hardOn_23 : decode cX6_hardOn 23 = .ok (.iload_n 3, 1) := by decide +kernel
theorem dX6_hardOn_24 : decode cX6_hardOn 24 = .ok (.aload_n 0, 1) := by decide +kernel
theorem dX6_hardOn_25 : decode cX6_hardOn 25 = .ok (.iload 4, 2) := by decide +kernel
theorem dX6_hardOn_27 : decode cX6_hardOn 27 = .ok (.iload_n 2, 1) := by decide +kernel
theorem dX6_hardOn_28 : decode cX6_hardOn 28 = .ok (.invokevirtual 93, 3) := by decide +kernel
theorem dX6_hardOn_31 : decode cX6_hardOn 31 = .ok (.iadd, 1) := by decide +kernel
theorem dX6_hardOn_32 : decode cX6_hardOn 32 = .ok (.istore_n 3, 1) := by decide +kernel
theorem dX6_hardOn_33 : decode cX6_hardOn 33 = .ok (.iinc 4 1, 3) := by decide +kernel
theorem dX6_hardOn_36 : decode cX6_hardOn 36 = .ok (.goto (-31), 3) := by decide +kernel
theorem dX6_hardOn_39 : decode cX6_hardOn 39 = .ok (.iload_n 3, 1) := by decide +kernel
theorem dX6_hardOn_40 : decode cX6_hardOn 40 = .ok (.ireturn, 1) := by decide +kernel
theorem dX6_kindsOn_0 : decode cX6_kindsOn 0 = .ok (.iconst 0, 1) := by decide +kernel
theorem dX6_kindsOn_1 : decode cX6_kindsOn 1 = .ok (.istore_n 2, 1) := by decide +kernel
theorem dX6_kindsOn_2 : decode cX6_kindsOn 2 = .ok (.iconst 0, 1) := by decide +kernel
theorem dX6_kindsOn_3 : decode cX6_kindsOn 3 = .ok (.istore_n 3, 1) := by decide +kernel
theorem dX6_kindsOn_4 : decode cX6_kindsOn 4 = .ok (.iload_n 3, 1) := by decide +kernel
theorem dX6_kindsOn_5 : decode cX6_kindsOn 5 = .ok (.aload_n 0, 1) := by decide +kernel
theorem dX6_kindsOn_6 : decode cX6_kindsOn 6 = .ok (.getfield 9, 3) := by decide +kernel
theorem dX6_kindsOn_9 : decode cX6_kindsOn 9 = .ok (.if_icmp .ge 30, 3) := by decide +kernel
theorem dX6_kindsOn_12 : decode cX6_kindsOn 12 = .ok (.iload_n 1, 1) := by decide +kernel
theorem dX6_kindsOn_13 : decode cX6_kindsOn 13 = .ok (.iload_n 3, 1) := by decide +kernel
theorem dX6_kindsOn_14 : decode cX6_kindsOn 14 = .ok (.invokestatic 79, 3) := by decide +kernel
theorem dX6_kindsOn_17 : decode cX6_kindsOn 17 = .ok (.ifCond .eq 16, 3) := by decide +kernel
theorem dX6_kindsOn_20 : decode cX6_kindsOn 20 = .ok (.iload_n 2, 1) := by decide +kernel
theorem dX6_kindsOn_21 : decode cX6_kindsOn 21 = .ok (.iconst 1, 1) := by decide +kernel
theorem dX6_kindsOn_22 : decode cX6_kindsOn 22 = .ok (.aload_n 0, 1) := by decide +kernel
theorem dX6_kindsOn_23 : decode cX6_kindsOn 23 = .ok (.getfield 30, 3) := by decide +kernel
theorem dX6_kindsOn_26 : decode cX6_kindsOn 26 = .ok (.iload_n 3, 1) := by decide +kernel
theorem dX6_kindsOn_27 : decode cX6_kindsOn 27 = .ok (.invokestatic 72, 3) := by decide +kernel
theorem dX6_kindsOn_30 : decode cX6_kindsOn 30 = .ok (.ishl, 1) := by decide +kernel
theorem dX6_kindsOn_31 : decode cX6_kindsOn 31 = .ok (.ior, 1) := by decide +kernel
theorem dX6_kindsOn_32 : decode cX6_kindsOn 32 = .ok (.istore_n 2, 1) := by decide +kernel
theorem dX6_kindsOn_33 : decode cX6_kindsOn 33 = .ok (.iinc 3 1, 3) := by decide +kernel
theorem dX6_kindsOn_36 : decode cX6_kindsOn 36 = .ok (.goto (-32), 3) := by decide +kernel
theorem dX6_kindsOn_39 : decode cX6_kindsOn 39 = .ok (.iload_n 2, 1) := by decide +kernel
theorem dX6_kindsOn_40 : decode cX6_kindsOn 40 = .ok (.ireturn, 1) := by decide +kernel
theorem dX6_faultsFor_0 : decode cX6_faultsFor 0 = .ok (.iconst 0, 1) := by decide +kernel
theorem dX6_faultsFor_1 : decode cX6_faultsFor 1 = .ok (.iload_n 0, 1) := by decide +kernel
theorem dX6_faultsFor_2 : decode cX6_faultsFor 2 = .ok (.iload_n 1, 1) := by decide +kernel
theorem dX6_faultsFor_3 : decode cX6_faultsFor 3 = .ok (.isub, 1) := by decide +kernel
theorem dX6_faultsFor_4 : decode cX6_faultsFor 4 = .ok (.invokestatic 97, 3) := by decide +kernel
theorem dX6_faultsFor_7 : decode cX6_faultsFor 7 = .ok (.istore_n 3, 1) := by decide +kernel
theorem dX6_faultsFor_8 : decode cX6_faultsFor 8 = .ok (.iload_n 2, 1) := by decide +kernel
theorem dX6_faultsFor_9 : decode cX6_faultsFor 9 = .ok (.ifCond .eq 9, 3) := by decide +kernel
theorem dX6_faultsFor_12 : decode cX6_faultsFor 12 = .ok (.iload_n 3, 1) := by decide +kernel
theorem dX6_faultsFor_13 : decode cX6_faultsFor 13 = .ok (.iconst 2, 1) := by decide +kernel
theorem dX6_faultsFor_14 : decode cX6_faultsFor 14 = .ok (.idiv, 1) := by decide +kernel
theorem dX6_faultsFor_15 : decode cX6_faultsFor 15 = .ok (.goto 4, 3) := by decide +kernel
theorem dX6_faultsFor_18 : decode cX6_faultsFor 18 = .ok (.iload_n 3, 1) := by decide +kernel
theorem dX6_faultsFor_19 : decode cX6_faultsFor 19 = .ok (.ireturn, 1) := by decide +kernel
theorem dX6_faultsIn_0 : decode cX6_faultsIn 0 = .ok (.aload_n 0, 1) := by decide +kernel
theorem dX6_faultsIn_1 : decode cX6_faultsIn 1 = .ok (.getfield 46, 3) := by decide +kernel
theorem dX6_faultsIn_4 : decode cX6_faultsIn 4 = .ok (.iload_n 1, 1) := by decide +kernel
theorem dX6_faultsIn_5 : decode cX6_faultsIn 5 = .ok (.invokestatic 72, 3) := by decide +kernel
theorem dX6_faultsIn_8 : decode cX6_faultsIn 8 = .ok (.iload_n 2, 1) := by decide +kernel
theorem dX6_faultsIn_9 : decode cX6_faultsIn 9 = .ok (.invokestatic 79, 3) := by decide +kernel
theorem dX6_faultsIn_12 : decode cX6_faultsIn 12 = .ok (.istore 4, 2) := by decide +kernel
theorem dX6_faultsIn_14 : decode cX6_faultsIn 14 = .ok (.aload_n 0, 1) := by decide +kernel
theorem dX6_faultsIn_15 : decode cX6_faultsIn 15 = .ok (.iload_n 2, 1) := by decide +kernel
theorem dX6_faultsIn_16 : decode cX6_faultsIn 16 = .ok (.iload_n 3, 1) := by decide +kernel
theorem dX6_faultsIn_17 : decode cX6_faultsIn 17 = .ok (.invokevirtual 93, 3) := by decide +kernel
theorem dX6_faultsIn_20 : decode cX6_faultsIn 20 = .ok (.aload_n 0, 1) := by decide +kernel
theorem dX6_faultsIn_21 : decode cX6_faultsIn 21 = .ok (.getfield 43, 3) := by decide +kernel
theorem dX6_faultsIn_24 : decode cX6_faultsIn 24 = .ok (.iload_n 1, 1) := by decide +kernel
theorem dX6_faultsIn_25 : decode cX6_faultsIn 25 = .ok (.invokestatic 72, 3) := by decide +kernel
theorem dX6_faultsIn_28 : decode cX6_faultsIn 28 = .ok (.iload 4, 2) := by decide +kernel
theorem dX6_faultsIn_30 : decode cX6_faultsIn 30 = .ok (.invokestatic 102, 3) := by decide +kernel
theorem dX6_faultsIn_33 : decode cX6_faultsIn 33 = .ok (.ireturn, 1) := by decide +kernel
theorem dX6_faultsOn_0 : decode cX6_faultsOn 0 = .ok (.aload_n 0, 1) := by decide +kernel
theorem dX6_faultsOn_1 : decode cX6_faultsOn 1 = .ok (.getfield 40, 3) := by decide +kernel
theorem dX6_faultsOn_4 : decode cX6_faultsOn 4 = .ok (.iload_n 2, 1) := by decide +kernel
theorem dX6_faultsOn_5 : decode cX6_faultsOn 5 = .ok (.invokestatic 72, 3) := by decide +kernel
theorem dX6_faultsOn_8 : decode cX6_faultsOn 8 = .ok (.istore 4, 2) := by decide +kernel
theorem dX6_faultsOn_10 : decode cX6_faultsOn 10 = .ok (.iconst 0, 1) := by decide +kernel
theorem dX6_faultsOn_11 : decode cX6_faultsOn 11 = .ok (.istore 5, 2) := by decide +kernel
theorem dX6_faultsOn_13 : decode cX6_faultsOn 13 = .ok (.iconst 0, 1) := by decide +kernel
theorem dX6_faultsOn_14 : decode cX6_faultsOn 14 = .ok (.istore 6, 2) := by decide +kernel
theorem dX6_faultsOn_16 : decode cX6_faultsOn 16 = .ok (.iload 6, 2) := by decide +kernel
theorem dX6_faultsOn_18 : decode cX6_faultsOn 18 = .ok (.aload_n 0, 1) := by decide +kernel
theorem dX6_faultsOn_19 : decode cX6_faultsOn 19 = .ok (.getfield 9, 3) := by decide +kernel
theorem dX6_faultsOn_22 : decode cX6_faultsOn 22 = .ok (.if_icmp .ge 32, 3) := by decide +kernel
theorem dX6_faultsOn_25 : decode cX6_faultsOn 25 = .ok (.iload 4, 2) := by decide +kernel
theorem dX6_faultsOn_27 : decode cX6_faultsOn 27 = .ok (.iload 6, 2) := by decide +kernel
theorem dX6_faultsOn_29 : decode cX6_faultsOn 29 = .ok (.invokestatic 79, 3) := by decide +kernel
theorem dX6_faultsOn_32 : decode cX6_faultsOn 32 = .ok (.ifCond .eq 16, 3) := by decide +kernel
theorem dX6_faultsOn_35 : decode cX6_faultsOn 35 = .ok (.iload 5, 2) := by decide +kernel
theorem dX6_faultsOn_37 : decode cX6_faultsOn 37 = .ok (.aload_n 0, 1) := by decide +kernel
theorem dX6_faultsOn_38 : decode cX6_faultsOn 38 = .ok (.iload_n 1, 1) := by decide +kernel
theorem dX6_faultsOn_39 : decode cX6_faultsOn 39 = .ok (.iload 6, 2) := by decide +kernel
theorem dX6_faultsOn_41 : decode cX6_faultsOn 41 = .ok (.iload_n 3, 1) := by decide +kernel
theorem dX6_faultsOn_42 : decode cX6_faultsOn 42 = .ok (.invokevirtual 106, 3) := by decide +kernel
theorem dX6_faultsOn_45 : decode cX6_faultsOn 45 = .ok (.iadd, 1) := by decide +kernel
theorem dX6_faultsOn_46 : decode cX6_faultsOn 46 = .ok (.istore 5, 2) := by decide +kernel
theorem dX6_faultsOn_48 : decode cX6_faultsOn 48 = .ok (.iinc 6 1, 3) := by decide +kernel
theorem dX6_faultsOn_51 : decode cX6_faultsOn 51 = .ok (.goto (-35), 3) := by decide +kernel
theorem dX6_faultsOn_54 : decode cX6_faultsOn 54 = .ok (.iload 5, 2) := by decide +kernel
theorem dX6_faultsOn_56 : decode cX6_faultsOn 56 = .ok (.ireturn, 1) := by decide +kernel
theorem dX6_limitToPass_0 : decode cX6_limitToPass 0 = .ok (.aload_n 0, 1) := by decide +kernel
theorem dX6_limitToPass_1 : decode cX6_limitToPass 1 = .ok (.getfield 40, 3) := by decide +kernel
theorem dX6_limitToPass_4 : decode cX6_limitToPass 4 = .ok (.iload_n 1, 1) := by decide +kernel
theorem dX6_limitToPass_5 : decode cX6_limitToPass 5 = .ok (.invokestatic 72, 3) := by decide +kernel
theorem dX6_limitToPass_8 : decode cX6_limitToPass 8 = .ok (.istore 5, 2) := by decide +kernel
theorem dX6_limitToPass_10 : decode cX6_limitToPass 10 = .ok (.iconst 0, 1) := by decide +kernel
theorem dX6_limitToPass_11 : decode cX6_limitToPass 11 = .ok (.istore 6, 2) := by decide +kernel
theorem dX6_limitToPass_13 : decode cX6_limitToPass 13 = .ok (.iconst 0, 1) := by decide +kernel
theorem dX6_limitToPass_14 : decode cX6_limitToPass 14 = .ok (.istore 7, 2) := by decide +kernel
theorem dX6_limitToPass_16 : decode cX6_limitToPass 16 = .ok (.iload 7, 2) := by decide +kernel
theorem dX6_limitToPass_18 : decode cX6_limitToPass 18 = .ok (.aload_n 0, 1) := by decide +kernel
theorem dX6_limitToPass_19 : decode cX6_limitToPass 19 = .ok (.getfield 9, 3) := by decide +kernel
theorem dX6_limitToPass_22 : decode cX6_limitToPass 22 = .ok (.if_icmp .ge 56, 3) := by decide +kernel
theorem dX6_limitToPass_25 : decode cX6_limitToPass 25 = .ok (.iload 5, 2) := by decide +kernel
theorem dX6_limitToPass_27 : decode cX6_limitToPass 27 = .ok (.iload 7, 2) := by decide +kernel
theorem dX6_limitToPass_29 : decode cX6_limitToPass 29 = .ok (.invokestatic 79, 3) := by decide +kernel
theorem dX6_limitToPass_32 : decode cX6_limitToPass 32 = .ok (.ifCond .eq 40, 3) := by decide +kernel
theorem dX6_limitToPass_35 : decode cX6_limitToPass 35 = .ok (.aload_n 0, 1) := by decide +kernel
theorem dX6_limitToPass_36 : decode cX6_limitToPass 36 = .ok (.iload 7, 2) := by decide +kernel
theorem dX6_limitToPass_38 : decode cX6_limitToPass 38 = .ok (.iload 4, 2) := by decide +kernel
theorem dX6_limitToPass_40 : decode cX6_limitToPass 40 = .ok (.invokevirtual 93, 3) := by decide +kernel
theorem dX6_limitToPass_43 : decode cX6_limitToPass 43 = .ok (.iload_n 2, 1) := by decide +kernel
theorem dX6_limitToPass_44 : decode cX6_limitToPass 44 = .ok (.iload_n 3, 1) := by decide +kernel
theorem dX6_limitToPass_45 : decode cX6_limitToPass 45 = .ok (.iload 7, 2) := by decide +kernel
theorem dX6_limitToPass_47 : decode cX6_limitToPass 47 = .ok (.invokestatic 79, 3) := by decide +kernel
theorem dX6_limitToPass_50 : decode cX6_limitToPass 50 = .ok (.invokestatic 102, 3) := by decide +kernel
theorem dX6_limitToPass_53 : decode cX6_limitToPass 53 = .ok (.istore 8, 2) := by decide +kernel
theorem dX6_limitToPass_55 : decode cX6_limitToPass 55 = .ok (.iload 8, 2) := by decide +kernel
theorem dX6_limitToPass_57 : decode cX6_limitToPass 57 = .ok (.iconst 5, 1) := by decide +kernel
theorem dX6_limitToPass_58 : decode cX6_limitToPass 58 = .ok (.if_icmp .le 7, 3) := by decide +kernel
theorem dX6_limitToPass_61 : decode cX6_limitToPass 61 = .ok (.sipush 1000, 3) := by decide +kernel
theorem dX6_limitToPass_64 : decode cX6_limitToPass 64 = .ok (.ireturn, 1) := by decide +kernel
theorem dX6_limitToPass_65 : decode cX6_limitToPass 65 = .ok (.iload 6, 2) := by decide +kernel
theorem dX6_limitToPass_67 : decode cX6_limitToPass 67 = .ok (.iload 8, 2) := by decide +kernel
theorem dX6_limitToPass_69 : decode cX6_limitToPass 69 = .ok (.iadd, 1) := by decide +kernel
theorem dX6_limitToPass_70 : decode cX6_limitToPass 70 = .ok (.istore 6, 2) := by decide +kernel
theorem dX6_limitToPass_72 : decode cX6_limitToPass 72 = .ok (.iinc 7 1, 3) := by decide +kernel
theorem dX6_limitToPass_75 : decode cX6_limitToPass 75 = .ok (.goto (-59), 3) := by decide +kernel
theorem dX6_limitToPass_78 : decode cX6_limitToPass 78 = .ok (.iload 6, 2) := by decide +kernel
theorem dX6_limitToPass_80 : decode cX6_limitToPass 80 = .ok (.ireturn, 1) := by decide +kernel
theorem dX6_passes_0 : decode cX6_passes 0 = .ok (.aload_n 0, 1) := by decide +kernel
theorem dX6_passes_1 : decode cX6_passes 1 = .ok (.iload_n 2, 1) := by decide +kernel
theorem dX6_passes_2 : decode cX6_passes 2 = .ok (.aload_n 0, 1) := by decide +kernel
theorem dX6_passes_3 : decode cX6_passes 3 = .ok (.getfield 43, 3) := by decide +kernel
theorem dX6_passes_6 : decode cX6_passes 6 = .ok (.iload_n 1, 1) := by decide +kernel
theorem dX6_passes_7 : decode cX6_passes 7 = .ok (.invokestatic 72, 3) := by decide +kernel
theorem dX6_passes_10 : decode cX6_passes 10 = .ok (.aload_n 0, 1) := by decide +kernel
theorem dX6_passes_11 : decode cX6_passes 11 = .ok (.getfield 46, 3) := by decide +kernel
theorem dX6_passes_14 : decode cX6_passes 14 = .ok (.iload_n 1, 1) := by decide +kernel
theorem dX6_passes_15 : decode cX6_passes 15 = .ok (.invokestatic 72, 3) := by decide +kernel
theorem dX6_passes_18 : decode cX6_passes 18 = .ok (.iload_n 3, 1) := by decide +kernel
theorem dX6_passes_19 : decode cX6_passes 19 = .ok (.invokevirtual 110, 3) := by decide +kernel
theorem dX6_passes_22 : decode cX6_passes 22 = .ok (.aload_n 0, 1) := by decide +kernel
theorem dX6_passes_23 : decode cX6_passes 23 = .ok (.getfield 24, 3) := by decide +kernel
theorem dX6_passes_26 : decode cX6_passes 26 = .ok (.if_icmp .gt 7, 3) := by decide +kernel
theorem dX6_passes_29 : decode cX6_passes 29 = .ok (.iconst 1, 1) := by decide +kernel
theorem dX6_passes_30 : decode cX6_passes 30 = .ok (.goto 4, 3) := by decide +kernel
theorem dX6_passes_33 : decode cX6_passes 33 = .ok (.iconst 0, 1) := by decide +kernel
theorem dX6_passes_34 : decode cX6_passes 34 = .ok (.ireturn, 1) := by decide +kernel
theorem dX6_waysPassed_0 : decode cX6_waysPassed 0 = .ok (.iconst 0, 1) := by decide +kernel
theorem dX6_waysPassed_1 : decode cX6_waysPassed 1 = .ok (.istore 4, 2) := by decide +kernel
theorem dX6_waysPassed_3 : decode cX6_waysPassed 3 = .ok (.iconst 0, 1) := by decide +kernel
theorem dX6_waysPassed_4 : decode cX6_waysPassed 4 = .ok (.istore 5, 2) := by decide +kernel
theorem dX6_waysPassed_6 : decode cX6_waysPassed 6 = .ok (.iload 5, 2) := by decide +kernel
theorem dX6_waysPassed_8 : decode cX6_waysPassed 8 = .ok (.aload_n 0, 1) := by decide +kernel
theorem dX6_waysPassed_9 : decode cX6_waysPassed 9 = .ok (.getfield 15, 3) := by decide +kernel
theorem dX6_waysPassed_12 : decode cX6_waysPassed 12 = .ok (.if_icmp .ge 34, 3) := by decide +kernel
theorem dX6_waysPassed_15 : decode cX6_waysPassed 15 = .ok (.aload_n 0, 1) := by decide +kernel
theorem dX6_waysPassed_16 : decode cX6_waysPassed 16 = .ok (.iload 5, 2) := by decide +kernel
theorem dX6_waysPassed_18 : decode cX6_waysPassed 18 = .ok (.iload_n 1, 1) := by decide +kernel
theorem dX6_waysPassed_19 : decode cX6_waysPassed 19 = .ok (.iload_n 2, 1) := by decide +kernel
theorem dX6_waysPassed_20 : decode cX6_waysPassed 20 = .ok (.iload_n 3, 1) := by decide +kernel
theorem dX6_waysPassed_21 : decode cX6_waysPassed 21 = .ok (.invokevirtual 110, 3) := by decide +kernel
theorem dX6_waysPassed_24 : decode cX6_waysPassed 24 = .ok (.aload_n 0, 1) := by decide +kernel
theorem dX6_waysPassed_25 : decode cX6_waysPassed 25 = .ok (.getfield 24, 3) := by decide +kernel
theorem dX6_waysPassed_28 : decode cX6_waysPassed 28 = .ok (.if_icmp .gt 12, 3) := by decide +kernel
theorem dX6_waysPassed_31 : decode cX6_waysPassed 31 = .ok (.iload 4, 2) := by decide +kernel
theorem dX6_waysPassed_33 : decode cX6_waysPassed 33 = .ok (.iconst 1, 1) := by decide +kernel
theorem dX6_waysPassed_34 : decode cX6_waysPassed 34 = .ok (.iload 5, 2) := by decide +kernel
theorem dX6_waysPassed_36 : decode cX6_waysPassed 36 = .ok (.ishl, 1) := by decide +kernel
theorem dX6_waysPassed_37 : decode cX6_waysPassed 37 = .ok (.ior, 1) := by decide +kernel
theorem dX6_waysPassed_38 : decode cX6_waysPassed 38 = .ok (.istore 4, 2) := by decide +kernel
theorem dX6_waysPassed_40 : decode cX6_waysPassed 40 = .ok (.iinc 5 1, 3) := by decide +kernel
theorem dX6_waysPassed_43 : decode cX6_waysPassed 43 = .ok (.goto (-37), 3) := by decide +kernel
theorem dX6_waysPassed_46 : decode cX6_waysPassed 46 = .ok (.iload 4, 2) := by decide +kernel
theorem dX6_waysPassed_48 : decode cX6_waysPassed 48 = .ok (.ireturn, 1) := by decide +kernel
theorem dX7_init_0 : decode cX7_init 0 = .ok (.aload_n 0, 1) := by decide +kernel
theorem dX7_init_1 : decode cX7_init 1 = .ok (.invokespecial 1, 3) := by decide +kernel
theorem dX7_init_4 : decode cX7_init 4 = .ok (.aload_n 0, 1) := by decide +kernel
theorem dX7_init_5 : decode cX7_init 5 = .ok (.new 7, 3) := by decide +kernel
theorem dX7_init_8 : decode cX7_init 8 = .ok (.dup, 1) := by decide +kernel
theorem dX7_init_9 : decode cX7_init 9 = .ok (.invokespecial 9, 3) := by decide +kernel
theorem dX7_init_12 : decode cX7_init 12 = .ok (.putfield 10, 3) := by decide +kernel
theorem dX7_init_15 : decode cX7_init 15 = .ok (.aload_n 0, 1) := by decide +kernel
theorem dX7_init_16 : decode cX7_init 16 = .ok (.new 7, 3) := by decide +kernel
theorem dX7_init_19 : decode cX7_init 19 = .ok (.dup, 1) := by decide +kernel
theorem dX7_init_20 : decode cX7_init 20 = .ok (.invokespecial 9, 3) := by decide +kernel
theorem dX7_init_23 : decode cX7_init 23 = .ok (.putfield 16, 3) := by decide +kernel
theorem dX7_init_26 : decode cX7_init 26 = .ok (.aload_n 0, 1) := by decide +kernel
theorem dX7_init_27 : decode cX7_init 27 = .ok (.new 7, 3) := by decide +kernel
theorem dX7_init_30 : decode cX7_init 30 = .ok (.dup, 1) := by decide +kernel
theorem dX7_init_31 : decode cX7_init 31 = .ok (.invokespecial 9, 3) := by decide +kernel
theorem dX7_init_34 : decode cX7_init 34 = .ok (.putfield 19, 3) := by decide +kernel
theorem dX7_init_37 : decode cX7_init 37 = .ok (.aload_n 0, 1) := by decide +kernel
theorem dX7_init_38 : decode cX7_init 38 = .ok (.new 22, 3) := by decide +kernel
theorem dX7_init_41 : decode cX7_init 41 = .ok (.dup, 1) := by decide +kernel
theorem dX7_init_42 : decode cX7_init 42 = .ok (.invokespecial 24, 3) := by decide +kernel
theorem dX7_init_45 : decode cX7_init 45 = .ok (.putfield 25, 3) := by decide +kernel
theorem dX7_init_48 : decode cX7_init 48 = .ok (.aload_n 0, 1) := by decide +kernel
theorem dX7_init_49 : decode cX7_init 49 = .ok (.new 29, 3) := by decide +kernel
theorem dX7_init_52 : decode cX7_init 52 = .ok (.dup, 1) := by decide +kernel
theorem dX7_init_53 : decode cX7_init 53 = .ok (.invokespecial 31, 3) := by decide +kernel
theorem dX7_init_56 : decode cX7_init 56 = .ok (.putfield 32, 3) := by decide +kernel
theorem dX7_init_59 : decode cX7_init 59 = .ok (.aload_n 0, 1) := by decide +kernel
theorem dX7_init_60 : decode cX7_init 60 = .ok (.new 36, 3) := by decide +kernel
theorem dX7_init_63 : decode cX7_init 63 = .ok (.dup, 1) := by decide +kernel
theorem dX7_init_64 : decode cX7_init 64 = .ok (.aload_n 0, 1) := by decide +kernel
theorem dX7_init_65 : decode cX7_init 65 = .ok (.getfield 10, 3) := by decide +kernel
theorem dX7_init_68 : decode cX7_init 68 = .ok (.invokespecial 38, 3) := by decide +kernel
theorem dX7_init_71 : decode cX7_init 71 = .ok (.putfield 41, 3) := by decide +kernel
theorem dX7_init_74 : decode cX7_init 74 = .ok (.aload_n 0, 1) := by decide +kernel
theorem dX7_init_75 : decode cX7_init 75 = .ok (.new 45, 3) := by decide +kernel
theorem dX7_init_78 : decode cX7_init 78 = .ok (.dup, 1) := by decide +kernel
theorem dX7_init_79 : decode cX7_init 79 = .ok (.aload_n 0, 1) := by decide +kernel
theorem dX7_init_80 : decode cX7_init 80 = .ok (.getfield 10, 3) := by decide +kernel
theorem dX7_init_83 : decode cX7_init 83 = .ok (.invokespecial 47, 3) := by decide +kernel
theorem dX7_init_86 : decode cX7_init 86 = .ok (.putfield 48, 3) := by decide +kernel
theorem dX7_init_89 : decode cX7_init 89 = .ok (.aload_n 0, 1) := by decide +kernel
theorem dX7_init_90 : decode cX7_init 90 = .ok (.new 52, 3) := by decide +kernel
theorem dX7_init_93 : decode cX7_init 93 = .ok (.dup, 1) := by decide +kernel
theorem dX7_init_94 : decode cX7_init 94 = .ok (.aload_n 0, 1) := by decide +kernel
theorem dX7_init_95 : decode cX7_init 95 = .ok (.getfield 10, 3) := by decide +kernel
theorem dX7_init_98 : decode cX7_init 98 = .ok (.invokespecial 54, 3) := by decide +kernel
theorem dX7_init_101 : decode cX7_init 101 = .ok (.putfield 55, 3) := by decide +kernel
theorem dX7_init_104 : decode cX7_init 104 = .ok (.aload_n 0, 1) := by decide +kernel
theorem dX7_init_105 : decode cX7_init 105 = .ok (.new 59, 3) := by decide +kernel
theorem dX7_init_108 : decode cX7_init 108 = .ok (.dup, 1) := by decide +kernel
theorem dX7_init_109 : decode cX7_init 109 = .ok (.aload_n 0, 1) := by decide +kernel
theorem dX7_init_110 : decode cX7_init 110 = .ok (.getfield 10, 3) := by decide +kernel
theorem dX7_init_113 : decode cX7_init 113 = .ok (.invokespecial 61, 3) := by decide +kernel
theorem dX7_init_116 : decode cX7_init 116 = .ok (.putfield 62, 3) := by decide +kernel
theorem dX7_init_119 : decode cX7_init 119 = .ok (.aload_n 0, 1) := by decide +kernel
theorem dX7_init_120 : decode cX7_init 120 = .ok (.bipush 7, 2) := by decide +kernel
theorem dX7_init_122 : decode cX7_init 122 = .ok (.newarray .int, 2) := by decide +kernel
theorem dX7_init_124 : decode cX7_init 124 = .ok (.putfield 66, 3) := by decide +kernel
theorem dX7_init_127 : decode cX7_init 127 = .ok (.aload_n 0, 1) := by decide +kernel
theorem dX7_init_128 : decode cX7_init 128 = .ok (.iconst 0, 1) := by decide +kernel
theorem dX7_init_129 : decode cX7_init 129 = .ok (.putfield 70, 3) := by decide +kernel
theorem dX7_init_132 : decode cX7_init 132 = .ok (.return_, 1) := by decide +kernel
theorem dX7_feed_0 : decode cX7_feed 0 = .ok (.iload_n 1, 1) := by decide +kernel
theorem dX7_feed_1 : decode cX7_feed 1 = .ok (.ifCond .ge 10, 3) := by decide +kernel
theorem dX7_feed_4 : decode cX7_feed 4 = .ok (.aload_n 0, 1) := by decide +kernel
theorem dX7_feed_5 : decode cX7_feed 5 = .ok (.bipush (-4), 2) := by decide +kernel
theorem dX7_feed_7 : decode cX7_feed 7 = .ok (.invokevirtual 74, 3) := by decide +kernel
theorem dX7_feed_10 : decode cX7_feed 10 = .ok (.ireturn, 1) := by decide +kernel
theorem dX7_feed_11 : decode cX7_feed 11 = .ok (.iload_n 1, 1) := by decide +kernel
theorem dX7_feed_12 : decode cX7_feed 12 = .ok (.sipush 255, 3) := by decide +kernel
theorem dX7_feed_15 : decode cX7_feed 15 = .ok (.if_icmp .gt 15, 3) := by decide +kernel
theorem dX7_feed_18 : decode cX7_feed 18 = .ok (.aload_n 0, 1) := by decide +kernel
theorem dX7_feed_19 : decode cX7_feed 19 = .ok (.getfield 32, 3) := by decide +kernel
theorem dX7_feed_22 : decode cX7_feed 22 = .ok (.getfield 78, 3) := by decide +kernel
theorem dX7_feed_25 : decode cX7_feed 25 = .ok (.bipush 96, 2) := by decide +kernel
theorem dX7_feed_27 : decode cX7_feed 27 = .ok (.if_icmp .lt 10, 3) := by decide +kernel
theorem dX7_feed_30 : decode cX7_feed 30 = .ok (.aload_n 0, 1) := by decide +kernel
theorem dX7_feed_31 : decode cX7_feed 31 = .ok (.bipush (-6), 2) := by decide +kernel
theorem dX7_feed_33 : decode cX7_feed 33 = .ok (.invokevirtual 74, 3) := by decide +kernel
theorem dX7_feed_36 : decode cX7_feed 36 = .ok (.ireturn, 1) := by decide +kernel
theorem dX7_feed_37 : decode cX7_feed 37 = .ok (.aload_n 0, 1) := by decide +kernel
theorem dX7_feed_38 : decode cX7_feed 38 = .ok (.getfield 32, 3) := by decide +kernel
theorem dX7_feed_41 : decode cX7_feed 41 = .ok (.iload_n 1, 1) := by decide +kernel
theorem dX7_feed_42 : decode cX7_feed 42 = .ok (.invokevirtual 82, 3) := by decide +kernel
theorem dX7_feed_45 : decode cX7_feed 45 = .ok (.ireturn, 1) := by decide +kernel
theorem dX7_town_0 : decode cX7_town 0 = .ok (.aload_n 0, 1) := by decide +kernel
theorem dX7_town_1 : decode cX7_town 1 = .ok (.getfield 19, 3) := by decide +kernel
theorem dX7_town_4 : decode cX7_town 4 = .ok (.aload_n 0, 1) := by decide +kernel
theorem dX7_town_5 : decode cX7_town 5 = .ok (.getfield 10, 3) := by decide +kernel
theorem dX7_town_8 : decode cX7_town 8 = .ok (.invokevirtual 85, 3) := by decide +kernel
theorem dX7_town_11 : decode cX7_town 11 = .ok (.aload_n 0, 1) := by decide +kernel
theorem dX7_town_12 : decode cX7_town 12 = .ok (.getfield 32, 3) := by decide +kernel
theorem dX7_town_15 : decode cX7_town 15 = .ok (.aload_n 0, 1) := by decide +kernel
theorem dX7_town_16 : decode cX7_town 16 = .ok (.getfield 19, 3) := by decide +kernel
theorem dX7_town_19 : decode cX7_town 19 = .ok (.invokevirtual 88, 3) := by decide +kernel
theorem dX7_town_22 : decode cX7_town 22 = .ok (.istore_n 1, 1) := by decide +kernel
theorem dX7_town_23 : decode cX7_town 23 = .ok (.aload_n 0, 1) := by decide +kernel
theorem dX7_town_24 : decode cX7_town 24 = .ok (.getfield 32, 3) := by decide +kernel
theorem dX7_town_27 : decode cX7_town 27 = .ok (.iconst 0, 1) := by decide +kernel
theorem dX7_town_28 : decode cX7_town 28 = .ok (.putfield 78, 3) := by decide +kernel
theorem dX7_town_31 : decode cX7_town 31 = .ok (.iload_n 1, 1) := by decide +kernel
theorem dX7_town_32 : decode cX7_town 32 = .ok (.ifCond .lt 22, 3) := by decide +kernel
theorem dX7_town_35 : decode cX7_town 35 = .ok (.aload_n 0, 1) := by decide +kernel
theorem dX7_town_36 : decode cX7_town 36 = .ok (.getfield 10, 3) := by decide +kernel
theorem dX7_town_39 : decode cX7_town 39 = .ok (.aload_n 0, 1) := by decide +kernel
theorem dX7_town_40 : decode cX7_town 40 = .ok (.getfield 19, 3) := by decide +kernel
theorem dX7_town_43 : decode cX7_town 43 = .ok (.invokevirtual 85, 3) := by decide +kernel
theorem dX7_town_46 : decode cX7_town 46 = .ok (.aload_n 0, 1) := by decide +kernel
theorem dX7_town_47 : decode cX7_town 47 = .ok (.getfield 25, 3) := by decide +kernel
theorem dX7_town_50 : decode cX7_town 50 = .ok (.iconst 0, 1) := by decide +kernel
theorem dX7_town_51 : decode cX7_town 51 = .ok (.putfield 92, 3) := by decide +kernel
theorem dX7_town_54 : decode cX7_town 54 = .ok (.iload_n 1, 1) := by decide +kernel
theorem dX7_town_55 : decode cX7_town 55 = .ok (.ireturn, 1) := by decide +kernel
theorem dX7_streetOf_0 : decode cX7_streetOf 0 = .ok (.aload_n 0, 1) := by decide +kernel
theorem dX7_streetOf_1 : decode cX7_streetOf 1 = .ok (.getfield 10, 3) := by decide +kernel
theorem dX7_streetOf_4 : decode cX7_streetOf 4 = .ok (.iload_n 1, 1) := by decide +kernel
theorem dX7_streetOf_5 : decode cX7_streetOf 5 = .ok (.invokevirtual 93, 3) := by decide +kernel
theorem dX7_streetOf_8 : decode cX7_streetOf 8 = .ok (.ifCond .ne 9, 3) := by decide +kernel
theorem dX7_streetOf_11 : decode cX7_streetOf 11 = .ok (.aload_n 0, 1) := by decide +kernel
theorem dX7_streetOf_12 : decode cX7_streetOf 12 = .ok (.iconst (-1), 1) := by decide +kernel
theorem dX7_streetOf_13 : decode cX7_streetOf 13 = .ok (.invokevirtual 74, 3) := by decide +kernel
theorem dX7_streetOf_16 : decode cX7_streetOf 16 = .ok (.ireturn, 1) := by decide +kernel
theorem dX7_streetOf_17 : decode cX7_streetOf 17 = .ok (.iload_n 2, 1) := by decide +kernel
theorem dX7_streetOf_18 : decode cX7_streetOf 18 = .ok (.tableswitch 95 0 4 #[34, 46, 58, 70, 86], 34) := by decide +kernel
theorem dX7_streetOf_52 : decode cX7_streetOf 52 = .ok (.aload_n 0, 1) := by decide +kernel
theorem dX7_streetOf_53 : decode cX7_streetOf 53 = .ok (.getfield 10, 3) := by decide +kernel
theorem dX7_streetOf_56 : decode cX7_streetOf 56 = .ok (.getfield 97, 3) := by decide +kernel
theorem dX7_streetOf_59 : decode cX7_streetOf 59 = .ok (.iload_n 1, 1) := by decide +kernel
theorem dX7_streetOf_60 : decode cX7_streetOf 60 = .ok (.invokestatic 100, 3) := by decide +kernel
theorem dX7_streetOf_63 : decode cX7_streetOf 63 = .ok (.ireturn, 1) := by decide +kernel
theorem dX7_streetOf_64 : decode cX7_streetOf 64 = .ok (.aload_n 0, 1) := by decide +kernel
theorem dX7_streetOf_65 : decode cX7_streetOf 65 = .ok (.getfield 10, 3) := by decide +kernel
theorem dX7_streetOf_68 : decode cX7_streetOf 68 = .ok (.getfield 104, 3) := by decide +kernel
theorem dX7_streetOf_71 : decode cX7_streetOf 71 = .ok (.iload_n 1, 1) := by decide +kernel
theorem dX7_streetOf_72 : decode cX7_streetOf 72 = .ok (.invokestatic 100, 3) := by decide +kernel
theorem dX7_streetOf_75 : decode cX7_streetOf 75 = .ok (.ireturn, 1) := by decide +kernel
theorem dX7_streetOf_76 : decode cX7_streetOf 76 = .ok (.aload_n 0, 1) := by decide +kernel
theorem dX7_streetOf_77 : decode cX7_streetOf 77 = .ok (.getfield 10, 3) := by decide +kernel
theorem dX7_streetOf_80 : decode cX7_streetOf 80 = .ok (.getfield 107, 3) := by decide +kernel
theorem dX7_streetOf_83 : decode cX7_streetOf 83 = .ok (.iload_n 1, 1) := by decide +kernel
theorem dX7_streetOf_84 : decode cX7_streetOf 84 = .ok (.invokestatic 100, 3) := by decide +kernel
theorem dX7_streetOf_87 : decode cX7_streetOf 87 = .ok (.ireturn, 1) := by decide +kernel
theorem dX7_streetOf_88 : decode cX7_streetOf 88 = .ok (.aload_n 0, 1) := by decide +kernel
theorem dX7_streetOf_89 : decode cX7_streetOf 89 = .ok (.getfield 10, 3) := by decide +kernel
theorem dX7_streetOf_92 : decode cX7_streetOf 92 = .ok (.iload_n 1, 1) := by decide +kernel
theorem dX7_streetOf_93 : decode cX7_streetOf 93 = .ok (.aload_n 0, 1) := by decide +kernel
theorem dX7_streetOf_94 : decode cX7_streetOf 94 = .ok (.getfield 10, 3) := by decide +kernel
theorem dX7_streetOf_97 : decode cX7_streetOf 97 = .ok (.getfield 110, 3) := by decide +kernel
theorem dX7_streetOf_100 : decode cX7_streetOf 100 = .ok (.invokevirtual 113, 3) := by decide +kernel
theorem dX7_streetOf_103 : decode cX7_streetOf 103 = .ok (.ireturn, 1) := by decide +kernel
theorem dX7_streetOf_104 : decode cX7_streetOf 104 = .ok (.aload_n 0, 1) := by decide +kernel
theorem dX7_streetOf_105 : decode cX7_streetOf 105 = .ok (.getfield 10, 3) := by decide +kernel
theorem dX7_streetOf_108 : decode cX7_streetOf 108 = .ok (.iload_n 1, 1) := by decide +kernel
theorem dX7_streetOf_109 : decode cX7_streetOf 109 = .ok (.invokevirtual 117, 3) := by decide +kernel
theorem dX7_streetOf_112 : decode cX7_streetOf 112 = .ok (.ireturn, 1) := by decide +kernel
theorem dX7_streetOf_113 : decode cX7_streetOf 113 = .ok (.aload_n 0, 1) := by decide +kernel
theorem dX7_streetOf_114 : decode cX7_streetOf 114 = .ok (.bipush (-2), 2) := by decide +kernel
theorem dX7_streetOf_116 : decode cX7_streetOf 116 = .ok (.invokevirtual 74, 3) := by decide +kernel
theorem dX7_streetOf_119 : decode cX7_streetOf 119 = .ok (.ireturn, 1) := by decide +kernel
theorem dX7_learnerOf_0 : decode cX7_learnerOf 0 = .ok (.aload_n 0, 1) := by decide +kernel
theorem dX7_learnerOf_1 : decode cX7_learnerOf 1 = .ok (.getfield 10, 3) := by decide +kernel
theorem dX7_learnerOf_4 : decode cX7_learnerOf 4 = .ok (.iload_n 1, 1) := by decide +kernel
theorem dX7_learnerOf_5 : decode cX7_learnerOf 5 = .ok (.invokevirtual 120, 3) := by decide +kernel
theorem dX7_learnerOf_8 : decode cX7_learnerOf 8 = .ok (.ifCond .ne 9, 3) := by decide +kernel
theorem dX7_learnerOf_11 : decode cX7_learnerOf 11 = .ok (.aload_n 0, 1) := by decide +kernel
theorem dX7_learnerOf_12 : decode cX7_learnerOf 12 = .ok (.iconst (-1), 1) := by decide +kernel
theorem dX7_learnerOf_13 : decode cX7_learnerOf 13 = .ok (.invokevirtual 74, 3) := by decide +kernel
theorem dX7_learnerOf_16 : decode cX7_learnerOf 16 = .ok (.ireturn, 1) := by decide +kernel
theorem dX7_learnerOf_17 : decode cX7_learnerOf 17 = .ok (.iload_n 2, 1) := by decide +kernel
theorem dX7_learnerOf_18 : decode cX7_learnerOf 18 = .ok (.lookupswitch 50 #[(0, 26), (1, 38)], 26) := by decide +kernel
theorem dX7_learnerOf_44 : decode cX7_learnerOf 44 = .ok (.aload_n 0, 1) := by decide +kernel
theorem dX7_learnerOf_45 : decode cX7_learnerOf 45 = .ok (.getfield 10, 3) := by decide +kernel
theorem dX7_learnerOf_48 : decode cX7_learnerOf 48 = .ok (.getfield 123, 3) := by decide +kernel
theorem dX7_learnerOf_51 : decode cX7_learnerOf 51 = .ok (.iload_n 1, 1) := by decide +kernel
theorem dX7_learnerOf_52 : decode cX7_learnerOf 52 = .ok (.invokestatic 100, 3) := by decide +kernel
theorem dX7_learnerOf_55 : decode cX7_learnerOf 55 = .ok (.ireturn, 1) := by decide +kernel
theorem dX7_learnerOf_56 : decode cX7_learnerOf 56 = .ok (.aload_n 0, 1) := by decide +kernel
theorem dX7_learnerOf_57 : decode cX7_learnerOf 57 = .ok (.getfield 10, 3) := by decide +kernel
theorem dX7_learnerOf_60 : decode cX7_learnerOf 60 = .ok (.getfield 126, 3) := by decide +kernel
theorem dX7_learnerOf_63 : decode cX7_learnerOf 63 = .ok (.iload_n 1, 1) := by decide +kernel
theorem dX7_learnerOf_64 : decode cX7_learnerOf 64 = .ok (.invokestatic 100, 3) := by decide +kernel
theorem dX7_learnerOf_67 : decode cX7_learnerOf 67 = .ok (.ireturn, 1) := by decide +kernel
theorem dX7_learnerOf_68 : decode cX7_learnerOf 68 = .ok (.aload_n 0, 1) := by decide +kernel
theorem dX7_learnerOf_69 : decode cX7_learnerOf 69 = .ok (.bipush (-2), 2) := by decide +kernel
theorem dX7_learnerOf_71 : decode cX7_learnerOf 71 = .ok (.invokevirtual 74, 3) := by decide +kernel
theorem dX7_learnerOf_74 : decode cX7_learnerOf 74 = .ok (.ireturn, 1) := by decide +kernel
theorem dX7_street_0 : decode cX7_street 0 = .ok (.aload_n 0, 1) := by decide +kernel
theorem dX7_street_1 : decode cX7_street 1 = .ok (.aload_n 0, 1) := by decide +kernel
theorem dX7_street_2 : decode cX7_street 2 = .ok (.getfield 10, 3) := by decide +kernel
theorem dX7_street_5 : decode cX7_street 5 = .ok (.iload_n 1, 1) := by decide +kernel
theorem dX7_street_6 : decode cX7_street 6 = .ok (.iload_n 2, 1) := by decide +kernel
theorem dX7_street_7 : decode cX7_street 7 = .ok (.iload_n 3, 1) := by decide +kernel
theorem dX7_street_8 : decode cX7_street 8 = .ok (.invokevirtual 129, 3) := by decide +kernel
theorem dX7_street_11 : decode cX7_street 11 = .ok (.invokevirtual 133, 3) := by decide +kernel
theorem dX7_street_14 : decode cX7_street 14 = .ok (.ireturn, 1) := by decide +kernel
theorem dX7_way_0 : decode cX7_way 0 = .ok (.aload_n 0, 1) := by decide +kernel
theorem dX7_way_1 : decode cX7_way 1 = .ok (.aload_n 0, 1) := by decide +kernel
theorem dX7_way_2 : decode cX7_way 2 = .ok (.getfield 10, 3) := by decide +kernel
theorem dX7_way_5 : decode cX7_way 5 = .ok (.iload_n 1, 1) := by decide +kernel
theorem dX7_way_6 : decode cX7_way 6 = .ok (.invokevirtual 136, 3) := by decide +kernel
theorem dX7_way_9 : decode cX7_way 9 = .ok (.invokevirtual 133, 3) := by decide +kernel
theorem dX7_way_12 : decode cX7_way 12 = .ok (.ireturn, 1) := by decide +kernel
theorem dX7_learner_0 : decode cX7_learner 0 = .ok (.aload_n 0, 1) := by decide +kernel
theorem dX7_learner_1 : decode cX7_learner 1 = .ok (.aload_n 0, 1) := by decide +kernel
theorem dX7_learner_2 : decode cX7_learner 2 = .ok (.getfield 10, 3) := by decide +kernel
theorem dX7_learner_5 : decode cX7_learner 5 = .ok (.iload_n 1, 1) := by decide +kernel
theorem dX7_learner_6 : decode cX7_learner 6 = .ok (.invokevirtual 139, 3) := by decide +kernel
theorem dX7_learner_9 : decode cX7_learner 9 = .ok (.invokevirtual 133, 3) := by decide +kernel
theorem dX7_learner_12 : decode cX7_learner 12 = .ok (.ireturn, 1) := by decide +kernel
theorem dX7_tests_0 : decode cX7_tests 0 = .ok (.aload_n 0, 1) := by decide +kernel
theorem dX7_tests_1 : decode cX7_tests 1 = .ok (.getfield 25, 3) := by decide +kernel
theorem dX7_tests_4 : decode cX7_tests 4 = .ok (.aload_n 0, 1) := by decide +kernel
theorem dX7_tests_5 : decode cX7_tests 5 = .ok (.getfield 10, 3) := by decide +kernel
theorem dX7_tests_8 : decode cX7_tests 8 = .ok (.invokevirtual 142, 3) := by decide +kernel
theorem dX7_tests_11 : decode cX7_tests 11 = .ok (.aload_n 0, 1) := by decide +kernel
theorem dX7_tests_12 : decode cX7_tests 12 = .ok (.aload_n 0, 1) := by decide +kernel
theorem dX7_tests_13 : decode cX7_tests 13 = .ok (.getfield 10, 3) := by decide +kernel
theorem dX7_tests_16 : decode cX7_tests 16 = .ok (.iload_n 1, 1) := by decide +kernel
theorem dX7_tests_17 : decode cX7_tests 17 = .ok (.iload_n 2, 1) := by decide +kernel
theorem dX7_tests_18 : decode cX7_tests 18 = .ok (.invokevirtual 145, 3) := by decide +kernel
theorem dX7_tests_21 : decode cX7_tests 21 = .ok (.invokevirtual 148, 3) := by decide +kernel
theorem dX7_tests_24 : decode cX7_tests 24 = .ok (.ireturn, 1) := by decide +kernel
theorem dX7_knows_0 : decode cX7_knows 0 = .ok (.aload_n 0, 1) := by decide +kernel
theorem dX7_knows_1 : decode cX7_knows 1 = .ok (.getfield 25, 3) := by decide +kernel
theorem dX7_knows_4 : decode cX7_knows 4 = .ok (.aload_n 0, 1) := by decide +kernel
theorem dX7_knows_5 : decode cX7_knows 5 = .ok (.getfield 10, 3) := by decide +kernel
theorem dX7_knows_8 : decode cX7_knows 8 = .ok (.invokevirtual 142, 3) := by decide +kernel
theorem dX7_knows_11 : decode cX7_knows 11 = .ok (.aload_n 0, 1) := by decide +kernel
theorem dX7_knows_12 : decode cX7_knows 12 = .ok (.aload_n 0, 1) := by decide +kernel
theorem dX7_knows_13 : decode cX7_knows 13 = .ok (.getfield 10, 3) := by decide +kernel
theorem dX7_knows_16 : decode cX7_knows 16 = .ok (.iload_n 1, 1) := by decide +kernel
theorem dX7_knows_17 : decode cX7_knows 17 = .ok (.iload_n 2, 1) := by decide +kernel
theorem dX7_knows_18 : decode cX7_knows 18 = .ok (.invokevirtual 151, 3) := by decide +kernel
theorem dX7_knows_21 : decode cX7_knows 21 = .ok (.invokevirtual 148, 3) := by decide +kernel
theorem dX7_knows_24 : decode cX7_knows 24 = .ok (.ireturn, 1) := by decide +kernel
theorem dX7_sets_0 : decode cX7_sets 0 = .ok (.aload_n 0, 1) := by decide +kernel
theorem dX7_sets_1 : decode cX7_sets 1 = .ok (.getfield 25, 3) := by decide +kernel
theorem dX7_sets_4 : decode cX7_sets 4 = .ok (.aload_n 0, 1) := by decide +kernel
theorem dX7_sets_5 : decode cX7_sets 5 = .ok (.getfield 10, 3) := by decide +kernel
theorem dX7_sets_8 : decode cX7_sets 8 = .ok (.invokevirtual 142, 3) := by decide +kernel
theorem dX7_sets_11 : decode cX7_sets 11 = .ok (.aload_n 0, 1) := by decide +kernel
theorem dX7_sets_12 : decode cX7_sets 12 = .ok (.aload_n 0, 1) := by decide +kernel
theorem dX7_sets_13 : decode cX7_sets 13 = .ok (.getfield 10, 3) := by decide +kernel
theorem dX7_sets_16 : decode cX7_sets 16 = .ok (.iload_n 1, 1) := by decide +kernel
theorem dX7_sets_17 : decode cX7_sets 17 = .ok (.iload_n 2, 1) := by decide +kernel
theorem dX7_sets_18 : decode cX7_sets 18 = .ok (.invokevirtual 154, 3) := by decide +kernel
theorem dX7_sets_21 : decode cX7_sets 21 = .ok (.invokevirtual 148, 3) := by decide +kernel
theorem dX7_sets_24 : decode cX7_sets 24 = .ok (.ireturn, 1) := by decide +kernel
theorem dX7_day_0 : decode cX7_day 0 = .ok (.aload_n 0, 1) := by decide +kernel
theorem dX7_day_1 : decode cX7_day 1 = .ok (.getfield 25, 3) := by decide +kernel
theorem dX7_day_4 : decode cX7_day 4 = .ok (.aload_n 0, 1) := by decide +kernel
theorem dX7_day_5 : decode cX7_day 5 = .ok (.getfield 10, 3) := by decide +kernel
theorem dX7_day_8 : decode cX7_day 8 = .ok (.invokevirtual 142, 3) := by decide +kernel
theorem dX7_day_11 : decode cX7_day 11 = .ok (.aload_n 0, 1) := by decide +kernel
theorem dX7_day_12 : decode cX7_day 12 = .ok (.aload_n 0, 1) := by decide +kernel
theorem dX7_day_13 : decode cX7_day 13 = .ok (.getfield 10, 3) := by decide +kernel
theorem dX7_day_16 : decode cX7_day 16 = .ok (.invokevirtual 157, 3) := by decide +kernel
theorem dX7_day_19 : decode cX7_day 19 = .ok (.invokevirtual 148, 3) := by decide +kernel
theorem dX7_day_22 : decode cX7_day 22 = .ok (.ireturn, 1) := by decide +kernel
theorem dX7_back_0 : decode cX7_back 0 = .ok (.aload_n 0, 1) := by decide +kernel
theorem dX7_back_1 : decode cX7_back 1 = .ok (.getfield 25, 3) := by decide +kernel
theorem dX7_back_4 : decode cX7_back 4 = .ok (.getfield 92, 3) := by decide +kernel
theorem dX7_back_7 : decode cX7_back 7 = .ok (.iconst 1, 1) := by decide +kernel
theorem dX7_back_8 : decode cX7_back 8 = .ok (.if_icmp .ge 10, 3) := by decide +kernel
theorem dX7_back_11 : decode cX7_back 11 = .ok (.aload_n 0, 1) := by decide +kernel
theorem dX7_back_12 : decode cX7_back 12 = .ok (.bipush (-3), 2) := by decide +kernel
theorem dX7_back_14 : decode cX7_back 14 = .ok (.invokevirtual 74, 3) := by decide +kernel
theorem dX7_back_17 : decode cX7_back 17 = .ok (.ireturn, 1) := by decide +kernel
theorem dX7_back_18 : decode cX7_back 18 = .ok (.aload_n 0, 1) := by decide +kernel
theorem dX7_back_19 : decode cX7_back 19 = .ok (.getfield 25, 3) := by decide +kernel
theorem dX7_back_22 : decode cX7_back 22 = .ok (.aload_n 0, 1) := by decide +kernel
theorem dX7_back_23 : decode cX7_back 23 = .ok (.getfield 10, 3) := by decide +kernel
theorem dX7_back_26 : decode cX7_back 26 = .ok (.invokevirtual 161, 3) := by decide +kernel
theorem dX7_back_29 : decode cX7_back 29 = .ok (.ireturn, 1) := by decide +kernel
theorem dX7_wayOf_0 : decode cX7_wayOf 0 = .ok (.aload_n 0, 1) := by decide +kernel
theorem dX7_wayOf_1 : decode cX7_wayOf 1 = .ok (.getfield 10, 3) := by decide +kernel
theorem dX7_wayOf_4 : decode cX7_wayOf 4 = .ok (.iload_n 1, 1) := by decide +kernel
theorem dX7_wayOf_5 : decode cX7_wayOf 5 = .ok (.invokevirtual 164, 3) := by decide +kernel
theorem dX7_wayOf_8 : decode cX7_wayOf 8 = .ok (.ifCond .eq 10, 3) := by decide +kernel
theorem dX7_wayOf_11 : decode cX7_wayOf 11 = .ok (.iload_n 2, 1) := by decide +kernel
theorem dX7_wayOf_12 : decode cX7_wayOf 12 = .ok (.invokestatic 167, 3) := by decide +kernel
theorem dX7_wayOf_15 : decode cX7_wayOf 15 = .ok (.ifCond .ne 9, 3) := by decide +kernel
theorem dX7_wayOf_18 : decode cX7_wayOf 18 = .ok (.aload_n 0, 1) := by decide +kernel
theorem dX7_wayOf_19 : decode cX7_wayOf 19 = .ok (.iconst (-1), 1) := by decide +kernel
theorem dX7_wayOf_20 : decode cX7_wayOf 20 = .ok (.invokevirtual 74, 3) := by decide +kernel
theorem dX7_wayOf_23 : decode cX7_wayOf 23 = .ok (.ireturn, 1) := by decide +kernel
theorem dX7_wayOf_24 : decode cX7_wayOf 24 = .ok (.aload_n 0, 1) := by decide +kernel
theorem dX7_wayOf_25 : decode cX7_wayOf 25 = .ok (.getfield 10, 3) := by decide +kernel
theorem dX7_wayOf_28 : decode cX7_wayOf 28 = .ok (.getfield 170, 3) := by decide +kernel
theorem dX7_wayOf_31 : decode cX7_wayOf 31 = .ok (.iload_n 1, 1) := by decide +kernel
theorem dX7_wayOf_32 : decode cX7_wayOf 32 = .ok (.invokestatic 100, 3) := by decide +kernel
theorem dX7_wayOf_35 : decode cX7_wayOf 35 = .ok (.istore 4, 2) := by decide +kernel
theorem dX7_wayOf_37 : decode cX7_wayOf 37 = .ok (.iload_n 3, 1) := by decide +kernel
theorem dX7_wayOf_38 : decode cX7_wayOf 38 = .ok (.tableswitch 64 0 3 #[30, 33, 43, 54], 30) := by decide +kernel
theorem dX7_wayOf_68 : decode cX7_wayOf 68 = .ok (.iload 4, 2) := by decide +kernel
theorem dX7_wayOf_70 : decode cX7_wayOf 70 = .ok (.ireturn, 1) := by decide +kernel
theorem dX7_wayOf_71 : decode cX7_wayOf 71 = .ok (.aload_n 0, 1) := by decide +kernel
theorem dX7_wayOf_72 : decode cX7_wayOf 72 = .ok (.getfield 10, 3) := by decide +kernel
theorem dX7_wayOf_75 : decode cX7_wayOf 75 = .ok (.iload 4, 2) := by decide +kernel
theorem dX7_wayOf_77 : decode cX7_wayOf 77 = .ok (.invokevirtual 173, 3) := by decide +kernel
theorem dX7_wayOf_80 : decode cX7_wayOf 80 = .ok (.ireturn, 1) := by decide +kernel
theorem dX7_wayOf_81 : decode cX7_wayOf 81 = .ok (.aload_n 0, 1) := by decide +kernel
theorem dX7_wayOf_82 : decode cX7_wayOf 82 = .ok (.getfield 10, 3) := by decide +kernel
theorem dX7_wayOf_85 : decode cX7_wayOf 85 = .ok (.iload 4, 2) := by decide +kernel
theorem dX7_wayOf_87 : decode cX7_wayOf 87 = .ok (.iload_n 2, 1) := by decide +kernel
theorem dX7_wayOf_88 : decode cX7_wayOf 88 = .ok (.invokevirtual 176, 3) := by decide +kernel
theorem dX7_wayOf_91 : decode cX7_wayOf 91 = .ok (.ireturn, 1) := by decide +kernel
theorem dX7_wayOf_92 : decode cX7_wayOf 92 = .ok (.aload_n 0, 1) := by decide +kernel
theorem dX7_wayOf_93 : decode cX7_wayOf 93 = .ok (.getfield 10, 3) := by decide +kernel
theorem dX7_wayOf_96 : decode cX7_wayOf 96 = .ok (.iload 4, 2) := by decide +kernel
theorem dX7_wayOf_98 : decode cX7_wayOf 98 = .ok (.invokevirtual 179, 3) := by decide +kernel
theorem dX7_wayOf_101 : decode cX7_wayOf 101 = .ok (.ireturn, 1) := by decide +kernel
theorem dX7_wayOf_102 : decode cX7_wayOf 102 = .ok (.aload_n 0, 1) := by decide +kernel
theorem dX7_wayOf_103 : decode cX7_wayOf 103 = .ok (.bipush (-2), 2) := by decide +kernel
theorem dX7_wayOf_105 : decode cX7_wayOf 105 = .ok (.invokevirtual 74, 3) := by decide +kernel
theorem dX7_wayOf_108 : decode cX7_wayOf 108 = .ok (.ireturn, 1) := by decide +kernel
theorem dX7_faults_0 : decode cX7_faults 0 = .ok (.aload_n 0, 1) := by decide +kernel
theorem dX7_faults_1 : decode cX7_faults 1 = .ok (.getfield 10, 3) := by decide +kernel
theorem dX7_faults_4 : decode cX7_faults 4 = .ok (.iload_n 1, 1) := by decide +kernel
theorem dX7_faults_5 : decode cX7_faults 5 = .ok (.invokevirtual 120, 3) := by decide +kernel
theorem dX7_faults_8 : decode cX7_faults 8 = .ok (.ifCond .eq 21, 3) := by decide +kernel
theorem dX7_faults_11 : decode cX7_faults 11 = .ok (.aload_n 0, 1) := by decide +kernel
theorem dX7_faults_12 : decode cX7_faults 12 = .ok (.getfield 10, 3) := by decide +kernel
theorem dX7_faults_15 : decode cX7_faults 15 = .ok (.iload_n 2, 1) := by decide +kernel
theorem dX7_faults_16 : decode cX7_faults 16 = .ok (.invokevirtual 164, 3) := by decide +kernel
theorem dX7_faults_19 : decode cX7_faults 19 = .ok (.ifCond .eq 10, 3) := by decide +kernel
theorem dX7_faults_22 : decode cX7_faults 22 = .ok (.iload_n 3, 1) := by decide +kernel
theorem dX7_faults_23 : decode cX7_faults 23 = .ok (.invokestatic 167, 3) := by decide +kernel
theorem dX7_faults_26 : decode cX7_faults 26 = .ok (.ifCond .ne 9, 3) := by decide +kernel
theorem dX7_faults_29 : decode cX7_faults 29 = .ok (.aload_n 0, 1) := by decide +kernel
theorem dX7_faults_30 : decode cX7_faults 30 = .ok (.iconst (-1), 1) := by decide +kernel
theorem dX7_faults_31 : decode cX7_faults 31 = .ok (.invokevirtual 74, 3) := by decide +kernel
