theorem dX8_alike_0 : decode cX8_alike 0 = .ok (.aload_n 0, 1) := by decide +kernel
theorem dX8_alike_1 : decode cX8_alike 1 = .ok (.iload_n 1, 1) := by decide +kernel
theorem dX8_alike_2 : decode cX8_alike 2 = .ok (.invokevirtual 120, 3) := by decide +kernel
theorem dX8_alike_5 : decode cX8_alike 5 = .ok (.ifCond .eq 16, 3) := by decide +kernel
theorem dX8_alike_8 : decode cX8_alike 8 = .ok (.aload_n 0, 1) := by decide +kernel
theorem dX8_alike_9 : decode cX8_alike 9 = .ok (.iload_n 2, 1) := by decide +kernel
theorem dX8_alike_10 : decode cX8_alike 10 = .ok (.invokevirtual 120, 3) := by decide +kernel
theorem dX8_alike_13 : decode cX8_alike 13 = .ok (.ifCond .eq 8, 3) := by decide +kernel
theorem dX8_alike_16 : decode cX8_alike 16 = .ok (.iload_n 1, 1) := by decide +kernel
theorem dX8_alike_17 : decode cX8_alike 17 = .ok (.iload_n 2, 1) := by decide +kernel
theorem dX8_alike_18 : decode cX8_alike 18 = .ok (.if_icmp .ne 9, 3) := by decide +kernel
theorem dX8_alike_21 : decode cX8_alike 21 = .ok (.aload_n 0, 1) := by decide +kernel
theorem dX8_alike_22 : decode cX8_alike 22 = .ok (.iconst (-1), 1) := by decide +kernel
theorem dX8_alike_23 : decode cX8_alike 23 = .ok (.invokevirtual 77, 3) := by decide +kernel
theorem dX8_alike_26 : decode cX8_alike 26 = .ok (.ireturn, 1) := by decide +kernel
theorem dX8_alike_27 : decode cX8_alike 27 = .ok (.aload_n 0, 1) := by decide +kernel
theorem dX8_alike_28 : decode cX8_alike 28 = .ok (.getfield 22, 3) := by decide +kernel
theorem dX8_alike_31 : decode cX8_alike 31 = .ok (.iload_n 1, 1) := by decide +kernel
theorem dX8_alike_32 : decode cX8_alike 32 = .ok (.iaload, 1) := by decide +kernel
theorem dX8_alike_33 : decode cX8_alike 33 = .ok (.aload_n 0, 1) := by decide +kernel
theorem dX8_alike_34 : decode cX8_alike 34 = .ok (.getfield 22, 3) := by decide +kernel
theorem dX8_alike_37 : decode cX8_alike 37 = .ok (.iload_n 2, 1) := by decide +kernel
theorem dX8_alike_38 : decode cX8_alike 38 = .ok (.iaload, 1) := by decide +kernel
theorem dX8_alike_39 : decode cX8_alike 39 = .ok (.iand, 1) := by decide +kernel
theorem dX8_alike_40 : decode cX8_alike 40 = .ok (.invokestatic 212, 3) := by decide +kernel
theorem dX8_alike_43 : decode cX8_alike 43 = .ok (.ireturn, 1) := by decide +kernel
theorem dX8_mostAlike_0 : decode cX8_mostAlike 0 = .ok (.bipush (-9), 2) := by decide +kernel
theorem dX8_mostAlike_2 : decode cX8_mostAlike 2 = .ok (.istore_n 1, 1) := by decide +kernel
theorem dX8_mostAlike_3 : decode cX8_mostAlike 3 = .ok (.bipush (-9), 2) := by decide +kernel
theorem dX8_mostAlike_5 : decode cX8_mostAlike 5 = .ok (.istore_n 2, 1) := by decide +kernel
theorem dX8_mostAlike_6 : decode cX8_mostAlike 6 = .ok (.iconst 0, 1) := by decide +kernel
theorem dX8_mostAlike_7 : decode cX8_mostAlike 7 = .ok (.istore_n 3, 1) := by decide +kernel
theorem dX8_mostAlike_8 : decode cX8_mostAlike 8 = .ok (.iload_n 3, 1) := by decide +kernel
theorem dX8_mostAlike_9 : decode cX8_mostAlike 9 = .ok (.aload_n 0, 1) := by decide +kernel
theorem dX8_mostAlike_10 : decode cX8_mostAlike 10 = .ok (.getfield 64, 3) := by decide +kernel
theorem dX8_mostAlike_13 : decode cX8_mostAlike 13 = .ok (.if_icmp .ge 79, 3) := by decide +kernel
theorem dX8_mostAlike_16 : decode cX8_mostAlike 16 = .ok (.iload_n 3, 1) := by decide +kernel
theorem dX8_mostAlike_17 : decode cX8_mostAlike 17 = .ok (.iconst 1, 1) := by decide +kernel
theorem dX8_mostAlike_18 : decode cX8_mostAlike 18 = .ok (.iadd, 1) := by decide +kernel
theorem dX8_mostAlike_19 : decode cX8_mostAlike 19 = .ok (.istore 4, 2) := by decide +kernel
theorem dX8_mostAlike_21 : decode cX8_mostAlike 21 = .ok (.iload 4, 2) := by decide +kernel
theorem dX8_mostAlike_23 : decode cX8_mostAlike 23 = .ok (.aload_n 0, 1) := by decide +kernel
theorem dX8_mostAlike_24 : decode cX8_mostAlike 24 = .ok (.getfield 64, 3) := by decide +kernel
theorem dX8_mostAlike_27 : decode cX8_mostAlike 27 = .ok (.if_icmp .ge 59, 3) := by decide +kernel
theorem dX8_mostAlike_30 : decode cX8_mostAlike 30 = .ok (.aload_n 0, 1) := by decide +kernel
theorem dX8_mostAlike_31 : decode cX8_mostAlike 31 = .ok (.getfield 22, 3) := by decide +kernel
theorem dX8_mostAlike_34 : decode cX8_mostAlike 34 = .ok (.iload_n 3, 1) := by decide +kernel
theorem dX8_mostAlike_35 : decode cX8_mostAlike 35 = .ok (.iaload, 1) := by decide +kernel
theorem dX8_mostAlike_36 : decode cX8_mostAlike 36 = .ok (.aload_n 0, 1) := by decide +kernel
theorem dX8_mostAlike_37 : decode cX8_mostAlike 37 = .ok (.getfield 22, 3) := by decide +kernel
theorem dX8_mostAlike_40 : decode cX8_mostAlike 40 = .ok (.iload 4, 2) := by decide +kernel
theorem dX8_mostAlike_42 : decode cX8_mostAlike 42 = .ok (.iaload, 1) := by decide +kernel
theorem dX8_mostAlike_43 : decode cX8_mostAlike 43 = .ok (.iand, 1) := by decide +kernel
theorem dX8_mostAlike_44 : decode cX8_mostAlike 44 = .ok (.invokestatic 212, 3) := by decide +kernel
theorem dX8_mostAlike_47 : decode cX8_mostAlike 47 = .ok (.iload_n 2, 1) := by decide +kernel
theorem dX8_mostAlike_48 : decode cX8_mostAlike 48 = .ok (.if_icmp .gt 6, 3) := by decide +kernel
theorem dX8_mostAlike_51 : decode cX8_mostAlike 51 = .ok (.goto 29, 3) := by decide +kernel
theorem dX8_mostAlike_54 : decode cX8_mostAlike 54 = .ok (.bipush 10, 2) := by decide +kernel
theorem dX8_mostAlike_56 : decode cX8_mostAlike 56 = .ok (.iload_n 3, 1) := by decide +kernel
theorem dX8_mostAlike_57 : decode cX8_mostAlike 57 = .ok (.imul, 1) := by decide +kernel
theorem dX8_mostAlike_58 : decode cX8_mostAlike 58 = .ok (.iload 4, 2) := by decide +kernel
theorem dX8_mostAlike_60 : decode cX8_mostAlike 60 = .ok (.iadd, 1) := by decide +kernel
theorem dX8_mostAlike_61 : decode cX8_mostAlike 61 = .ok (.istore_n 1, 1) := by decide +kernel
theorem dX8_mostAlike_62 : decode cX8_mostAlike 62 = .ok (.aload_n 0, 1) := by decide +kernel
theorem dX8_mostAlike_63 : decode cX8_mostAlike 63 = .ok (.getfield 22, 3) := by decide +kernel
theorem dX8_mostAlike_66 : decode cX8_mostAlike 66 = .ok (.iload_n 3, 1) := by decide +kernel
theorem dX8_mostAlike_67 : decode cX8_mostAlike 67 = .ok (.iaload, 1) := by decide +kernel
theorem dX8_mostAlike_68 : decode cX8_mostAlike 68 = .ok (.aload_n 0, 1) := by decide +kernel
theorem dX8_mostAlike_69 : decode cX8_mostAlike 69 = .ok (.getfield 22, 3) := by decide +kernel
theorem dX8_mostAlike_72 : decode cX8_mostAlike 72 = .ok (.iload 4, 2) := by decide +kernel
theorem dX8_mostAlike_74 : decode cX8_mostAlike 74 = .ok (.iaload, 1) := by decide +kernel
theorem dX8_mostAlike_75 : decode cX8_mostAlike 75 = .ok (.iand, 1) := by decide +kernel
theorem dX8_mostAlike_76 : decode cX8_mostAlike 76 = .ok (.invokestatic 212, 3) := by decide +kernel
theorem dX8_mostAlike_79 : decode cX8_mostAlike 79 = .ok (.istore_n 2, 1) := by decide +kernel
theorem dX8_mostAlike_80 : decode cX8_mostAlike 80 = .ok (.iinc 4 1, 3) := by decide +kernel
theorem dX8_mostAlike_83 : decode cX8_mostAlike 83 = .ok (.goto (-62), 3) := by decide +kernel
theorem dX8_mostAlike_86 : decode cX8_mostAlike 86 = .ok (.iinc 3 1, 3) := by decide +kernel
theorem dX8_mostAlike_89 : decode cX8_mostAlike 89 = .ok (.goto (-81), 3) := by decide +kernel
theorem dX8_mostAlike_92 : decode cX8_mostAlike 92 = .ok (.iload_n 1, 1) := by decide +kernel
theorem dX8_mostAlike_93 : decode cX8_mostAlike 93 = .ok (.ireturn, 1) := by decide +kernel
theorem dX8_mostApart_0 : decode cX8_mostApart 0 = .ok (.iconst 0, 1) := by decide +kernel
theorem dX8_mostApart_1 : decode cX8_mostApart 1 = .ok (.istore_n 3, 1) := by decide +kernel
theorem dX8_mostApart_2 : decode cX8_mostApart 2 = .ok (.iconst 0, 1) := by decide +kernel
theorem dX8_mostApart_3 : decode cX8_mostApart 3 = .ok (.istore 4, 2) := by decide +kernel
theorem dX8_mostApart_5 : decode cX8_mostApart 5 = .ok (.iload 4, 2) := by decide +kernel
theorem dX8_mostApart_7 : decode cX8_mostApart 7 = .ok (.aload_n 0, 1) := by decide +kernel
theorem dX8_mostApart_8 : decode cX8_mostApart 8 = .ok (.getfield 64, 3) := by decide +kernel
theorem dX8_mostApart_11 : decode cX8_mostApart 11 = .ok (.if_icmp .ge 91, 3) := by decide +kernel
theorem dX8_mostApart_14 : decode cX8_mostApart 14 = .ok (.iconst 0, 1) := by decide +kernel
theorem dX8_mostApart_15 : decode cX8_mostApart 15 = .ok (.istore 5, 2) := by decide +kernel
theorem dX8_mostApart_17 : decode cX8_mostApart 17 = .ok (.iload 5, 2) := by decide +kernel
theorem dX8_mostApart_19 : decode cX8_mostApart 19 = .ok (.aload_n 0, 1) := by decide +kernel
theorem dX8_mostApart_20 : decode cX8_mostApart 20 = .ok (.getfield 64, 3) := by decide +kernel
theorem dX8_mostApart_23 : decode cX8_mostApart 23 = .ok (.if_icmp .ge 73, 3) := by decide +kernel
theorem dX8_mostApart_26 : decode cX8_mostApart 26 = .ok (.iload_n 1, 1) := by decide +kernel
theorem dX8_mostApart_27 : decode cX8_mostApart 27 = .ok (.iload 4, 2) := by decide +kernel
theorem dX8_mostApart_29 : decode cX8_mostApart 29 = .ok (.invokestatic 173, 3) := by decide +kernel
theorem dX8_mostApart_32 : decode cX8_mostApart 32 = .ok (.ifCond .eq 42, 3) := by decide +kernel
theorem dX8_mostApart_35 : decode cX8_mostApart 35 = .ok (.iload_n 1, 1) := by decide +kernel
theorem dX8_mostApart_36 : decode cX8_mostApart 36 = .ok (.iload 5, 2) := by decide +kernel
theorem dX8_mostApart_38 : decode cX8_mostApart 38 = .ok (.invokestatic 173, 3) := by decide +kernel
theorem dX8_mostApart_41 : decode cX8_mostApart 41 = .ok (.ifCond .eq 33, 3) := by decide +kernel
theorem dX8_mostApart_44 : decode cX8_mostApart 44 = .ok (.aload_n 0, 1) := by decide +kernel
theorem dX8_mostApart_45 : decode cX8_mostApart 45 = .ok (.aload_n 0, 1) := by decide +kernel
theorem dX8_mostApart_46 : decode cX8_mostApart 46 = .ok (.getfield 22, 3) := by decide +kernel
theorem dX8_mostApart_49 : decode cX8_mostApart 49 = .ok (.iload 4, 2) := by decide +kernel
theorem dX8_mostApart_51 : decode cX8_mostApart 51 = .ok (.iaload, 1) := by decide +kernel
theorem dX8_mostApart_52 : decode cX8_mostApart 52 = .ok (.iload_n 2, 1) := by decide +kernel
theorem dX8_mostApart_53 : decode cX8_mostApart 53 = .ok (.invokevirtual 197, 3) := by decide +kernel
theorem dX8_mostApart_56 : decode cX8_mostApart 56 = .ok (.aload_n 0, 1) := by decide +kernel
theorem dX8_mostApart_57 : decode cX8_mostApart 57 = .ok (.aload_n 0, 1) := by decide +kernel
theorem dX8_mostApart_58 : decode cX8_mostApart 58 = .ok (.getfield 22, 3) := by decide +kernel
theorem dX8_mostApart_61 : decode cX8_mostApart 61 = .ok (.iload 5, 2) := by decide +kernel
theorem dX8_mostApart_63 : decode cX8_mostApart 63 = .ok (.iaload, 1) := by decide +kernel
theorem dX8_mostApart_64 : decode cX8_mostApart 64 = .ok (.iload_n 2, 1) := by decide +kernel
theorem dX8_mostApart_65 : decode cX8_mostApart 65 = .ok (.invokevirtual 197, 3) := by decide +kernel
theorem dX8_mostApart_68 : decode cX8_mostApart 68 = .ok (.invokestatic 231, 3) := by decide +kernel
theorem dX8_mostApart_71 : decode cX8_mostApart 71 = .ok (.goto 4, 3) := by decide +kernel
theorem dX8_mostApart_74 : decode cX8_mostApart 74 = .ok (.iconst 0, 1) := by decide +kernel
theorem dX8_mostApart_75 : decode cX8_mostApart 75 = .ok (.istore 6, 2) := by decide +kernel
theorem dX8_mostApart_77 : decode cX8_mostApart 77 = .ok (.iload 6, 2) := by decide +kernel
theorem dX8_mostApart_79 : decode cX8_mostApart 79 = .ok (.iload_n 3, 1) := by decide +kernel
theorem dX8_mostApart_80 : decode cX8_mostApart 80 = .ok (.if_icmp .le 8, 3) := by decide +kernel
theorem dX8_mostApart_83 : decode cX8_mostApart 83 = .ok (.iload 6, 2) := by decide +kernel
theorem dX8_mostApart_85 : decode cX8_mostApart 85 = .ok (.goto 4, 3) := by decide +kernel
theorem dX8_mostApart_88 : decode cX8_mostApart 88 = .ok (.iload_n 3, 1) := by decide +kernel
theorem dX8_mostApart_89 : decode cX8_mostApart 89 = .ok (.istore_n 3, 1) := by decide +kernel
theorem dX8_mostApart_90 : decode cX8_mostApart 90 = .ok (.iinc 5 1, 3) := by decide +kernel
theorem dX8_mostApart_93 : decode cX8_mostApart 93 = .ok (.goto (-76), 3) := by decide +kernel
theorem dX8_mostApart_96 : decode cX8_mostApart 96 = .ok (.iinc 4 1, 3) := by decide +kernel
theorem dX8_mostApart_99 : decode cX8_mostApart 99 = .ok (.goto (-94), 3) := by decide +kernel
theorem dX8_mostApart_102 : decode cX8_mostApart 102 = .ok (.iload_n 3, 1) := by decide +kernel
theorem dX8_mostApart_103 : decode cX8_mostApart 103 = .ok (.ireturn, 1) := by decide +kernel
theorem dX8_fair_0 : decode cX8_fair 0 = .ok (.iload_n 1, 1) := by decide +kernel
theorem dX8_fair_1 : decode cX8_fair 1 = .ok (.invokestatic 126, 3) := by decide +kernel
theorem dX8_fair_4 : decode cX8_fair 4 = .ok (.ifCond .ne 7, 3) := by decide +kernel
theorem dX8_fair_7 : decode cX8_fair 7 = .ok (.iconst (-1), 1) := by decide +kernel
theorem dX8_fair_8 : decode cX8_fair 8 = .ok (.goto 10, 3) := by decide +kernel
theorem dX8_fair_11 : decode cX8_fair 11 = .ok (.iload_n 2, 1) := by decide +kernel
theorem dX8_fair_12 : decode cX8_fair 12 = .ok (.iconst 0, 1) := by decide +kernel
theorem dX8_fair_13 : decode cX8_fair 13 = .ok (.bipush 6, 2) := by decide +kernel
theorem dX8_fair_15 : decode cX8_fair 15 = .ok (.invokestatic 70, 3) := by decide +kernel
theorem dX8_fair_18 : decode cX8_fair 18 = .ok (.istore_n 3, 1) := by decide +kernel
theorem dX8_fair_19 : decode cX8_fair 19 = .ok (.iload_n 3, 1) := by decide +kernel
theorem dX8_fair_20 : decode cX8_fair 20 = .ok (.ifCond .eq 9, 3) := by decide +kernel
theorem dX8_fair_23 : decode cX8_fair 23 = .ok (.aload_n 0, 1) := by decide +kernel
theorem dX8_fair_24 : decode cX8_fair 24 = .ok (.iload_n 3, 1) := by decide +kernel
theorem dX8_fair_25 : decode cX8_fair 25 = .ok (.invokevirtual 77, 3) := by decide +kernel
theorem dX8_fair_28 : decode cX8_fair 28 = .ok (.ireturn, 1) := by decide +kernel
theorem dX8_fair_29 : decode cX8_fair 29 = .ok (.iload_n 2, 1) := by decide +kernel
theorem dX8_fair_30 : decode cX8_fair 30 = .ok (.ifCond .ne 17, 3) := by decide +kernel
theorem dX8_fair_33 : decode cX8_fair 33 = .ok (.aload_n 0, 1) := by decide +kernel
theorem dX8_fair_34 : decode cX8_fair 34 = .ok (.iconst 1, 1) := by decide +kernel
theorem dX8_fair_35 : decode cX8_fair 35 = .ok (.aload_n 0, 1) := by decide +kernel
theorem dX8_fair_36 : decode cX8_fair 36 = .ok (.getfield 64, 3) := by decide +kernel
theorem dX8_fair_39 : decode cX8_fair 39 = .ok (.ishl, 1) := by decide +kernel
theorem dX8_fair_40 : decode cX8_fair 40 = .ok (.iconst 1, 1) := by decide +kernel
theorem dX8_fair_41 : decode cX8_fair 41 = .ok (.isub, 1) := by decide +kernel
theorem dX8_fair_42 : decode cX8_fair 42 = .ok (.iload_n 1, 1) := by decide +kernel
theorem dX8_fair_43 : decode cX8_fair 43 = .ok (.invokevirtual 234, 3) := by decide +kernel
theorem dX8_fair_46 : decode cX8_fair 46 = .ok (.ireturn, 1) := by decide +kernel
theorem dX8_fair_47 : decode cX8_fair 47 = .ok (.bipush (-9), 2) := by decide +kernel
theorem dX8_fair_49 : decode cX8_fair 49 = .ok (.istore 4, 2) := by decide +kernel
theorem dX8_fair_51 : decode cX8_fair 51 = .ok (.iconst 0, 1) := by decide +kernel
theorem dX8_fair_52 : decode cX8_fair 52 = .ok (.istore 5, 2) := by decide +kernel
theorem dX8_fair_54 : decode cX8_fair 54 = .ok (.iload 5, 2) := by decide +kernel
theorem dX8_fair_56 : decode cX8_fair 56 = .ok (.iconst 1, 1) := by decide +kernel
theorem dX8_fair_57 : decode cX8_fair 57 = .ok (.aload_n 0, 1) := by decide +kernel
theorem dX8_fair_58 : decode cX8_fair 58 = .ok (.getfield 64, 3) := by decide +kernel
theorem dX8_fair_61 : decode cX8_fair 61 = .ok (.ishl, 1) := by decide +kernel
theorem dX8_fair_62 : decode cX8_fair 62 = .ok (.if_icmp .ge 44, 3) := by decide +kernel
theorem dX8_fair_65 : decode cX8_fair 65 = .ok (.iload 5, 2) := by decide +kernel
theorem dX8_fair_67 : decode cX8_fair 67 = .ok (.invokestatic 212, 3) := by decide +kernel
theorem dX8_fair_70 : decode cX8_fair 70 = .ok (.iload_n 2, 1) := by decide +kernel
theorem dX8_fair_71 : decode cX8_fair 71 = .ok (.if_icmp .ne 29, 3) := by decide +kernel
theorem dX8_fair_74 : decode cX8_fair 74 = .ok (.iload 4, 2) := by decide +kernel
theorem dX8_fair_76 : decode cX8_fair 76 = .ok (.ifCond .lt 20, 3) := by decide +kernel
theorem dX8_fair_79 : decode cX8_fair 79 = .ok (.aload_n 0, 1) := by decide +kernel
theorem dX8_fair_80 : decode cX8_fair 80 = .ok (.iload 5, 2) := by decide +kernel
theorem dX8_fair_82 : decode cX8_fair 82 = .ok (.iload_n 1, 1) := by decide +kernel
theorem dX8_fair_83 : decode cX8_fair 83 = .ok (.invokevirtual 234, 3) := by decide +kernel
theorem dX8_fair_86 : decode cX8_fair 86 = .ok (.aload_n 0, 1) := by decide +kernel
theorem dX8_fair_87 : decode cX8_fair 87 = .ok (.iload 4, 2) := by decide +kernel
theorem dX8_fair_89 : decode cX8_fair 89 = .ok (.iload_n 1, 1) := by decide +kernel
theorem dX8_fair_90 : decode cX8_fair 90 = .ok (.invokevirtual 234, 3) := by decide +kernel
theorem dX8_fair_93 : decode cX8_fair 93 = .ok (.if_icmp .ge 7, 3) := by decide +kernel
theorem dX8_fair_96 : decode cX8_fair 96 = .ok (.iload 5, 2) := by decide +kernel
theorem dX8_fair_98 : decode cX8_fair 98 = .ok (.istore 4, 2) := by decide +kernel
theorem dX8_fair_100 : decode cX8_fair 100 = .ok (.iinc 5 1, 3) := by decide +kernel
theorem dX8_fair_103 : decode cX8_fair 103 = .ok (.goto (-49), 3) := by decide +kernel
theorem dX8_fair_106 : decode cX8_fair 106 = .ok (.iload 4, 2) := by decide +kernel
theorem dX8_fair_108 : decode cX8_fair 108 = .ok (.ireturn, 1) := by decide +kernel
theorem dX8_followed_0 : decode cX8_followed 0 = .ok (.iconst 0, 1) := by decide +kernel
theorem dX8_followed_1 : decode cX8_followed 1 = .ok (.istore_n 2, 1) := by decide +kernel
theorem dX8_followed_2 : decode cX8_followed 2 = .ok (.iconst 0, 1) := by decide +kernel
theorem dX8_followed_3 : decode cX8_followed 3 = .ok (.istore_n 3, 1) := by decide +kernel
theorem dX8_followed_4 : decode cX8_followed 4 = .ok (.iload_n 3, 1) := by decide +kernel
theorem dX8_followed_5 : decode cX8_followed 5 = .ok (.iload_n 1, 1) := by decide +kernel
theorem dX8_followed_6 : decode cX8_followed 6 = .ok (.if_icmp .ge 30, 3) := by decide +kernel
theorem dX8_followed_9 : decode cX8_followed 9 = .ok (.aload_n 0, 1) := by decide +kernel
theorem dX8_followed_10 : decode cX8_followed 10 = .ok (.getfield 64, 3) := by decide +kernel
theorem dX8_followed_13 : decode cX8_followed 13 = .ok (.ifCond .le 23, 3) := by decide +kernel
theorem dX8_followed_16 : decode cX8_followed 16 = .ok (.iload_n 2, 1) := by decide +kernel
theorem dX8_followed_17 : decode cX8_followed 17 = .ok (.aload_n 0, 1) := by decide +kernel
theorem dX8_followed_18 : decode cX8_followed 18 = .ok (.getfield 22, 3) := by decide +kernel
theorem dX8_followed_21 : decode cX8_followed 21 = .ok (.iload_n 3, 1) := by decide +kernel
theorem dX8_followed_22 : decode cX8_followed 22 = .ok (.aload_n 0, 1) := by decide +kernel
theorem dX8_followed_23 : decode cX8_followed 23 = .ok (.getfield 64, 3) := by decide +kernel
theorem dX8_followed_26 : decode cX8_followed 26 = .ok (.irem, 1) := by decide +kernel
theorem dX8_followed_27 : decode cX8_followed 27 = .ok (.iaload, 1) := by decide +kernel
theorem dX8_followed_28 : decode cX8_followed 28 = .ok (.ior, 1) := by decide +kernel
theorem dX8_followed_29 : decode cX8_followed 29 = .ok (.istore_n 2, 1) := by decide +kernel
theorem dX8_followed_30 : decode cX8_followed 30 = .ok (.iinc 3 1, 3) := by decide +kernel
theorem dX8_followed_33 : decode cX8_followed 33 = .ok (.goto (-29), 3) := by decide +kernel
theorem dX8_followed_36 : decode cX8_followed 36 = .ok (.iload_n 2, 1) := by decide +kernel
theorem dX8_followed_37 : decode cX8_followed 37 = .ok (.ireturn, 1) := by decide +kernel
theorem dX8_moped_0 : decode cX8_moped 0 = .ok (.iload_n 1, 1) := by decide +kernel
theorem dX8_moped_1 : decode cX8_moped 1 = .ok (.iconst 0, 1) := by decide +kernel
theorem dX8_moped_2 : decode cX8_moped 2 = .ok (.bipush 60, 2) := by decide +kernel
theorem dX8_moped_4 : decode cX8_moped 4 = .ok (.invokestatic 70, 3) := by decide +kernel
theorem dX8_moped_7 : decode cX8_moped 7 = .ok (.istore_n 3, 1) := by decide +kernel
theorem dX8_moped_8 : decode cX8_moped 8 = .ok (.iload_n 3, 1) := by decide +kernel
theorem dX8_moped_9 : decode cX8_moped 9 = .ok (.ifCond .ne 15, 3) := by decide +kernel
theorem dX8_moped_12 : decode cX8_moped 12 = .ok (.iload_n 2, 1) := by decide +kernel
theorem dX8_moped_13 : decode cX8_moped 13 = .ok (.iconst 0, 1) := by decide +kernel
theorem dX8_moped_14 : decode cX8_moped 14 = .ok (.iconst 1, 1) := by decide +kernel
theorem dX8_moped_15 : decode cX8_moped 15 = .ok (.invokestatic 88, 3) := by decide +kernel
theorem dX8_moped_18 : decode cX8_moped 18 = .ok (.ifCond .ne 6, 3) := by decide +kernel
theorem dX8_moped_21 : decode cX8_moped 21 = .ok (.bipush (-2), 2) := by decide +kernel
theorem dX8_moped_23 : decode cX8_moped 23 = .ok (.istore_n 3, 1) := by decide +kernel
theorem dX8_moped_24 : decode cX8_moped 24 = .ok (.iload_n 3, 1) := by decide +kernel
theorem dX8_moped_25 : decode cX8_moped 25 = .ok (.ifCond .eq 9, 3) := by decide +kernel
theorem dX8_moped_28 : decode cX8_moped 28 = .ok (.aload_n 0, 1) := by decide +kernel
theorem dX8_moped_29 : decode cX8_moped 29 = .ok (.iload_n 3, 1) := by decide +kernel
theorem dX8_moped_30 : decode cX8_moped 30 = .ok (.invokevirtual 77, 3) := by decide +kernel
theorem dX8_moped_33 : decode cX8_moped 33 = .ok (.ireturn, 1) := by decide +kernel
theorem dX8_moped_34 : decode cX8_moped 34 = .ok (.iload_n 2, 1) := by decide +kernel
theorem dX8_moped_35 : decode cX8_moped 35 = .ok (.ifCond .ne 9, 3) := by decide +kernel
theorem dX8_moped_38 : decode cX8_moped 38 = .ok (.aload_n 0, 1) := by decide +kernel
theorem dX8_moped_39 : decode cX8_moped 39 = .ok (.iload_n 1, 1) := by decide +kernel
theorem dX8_moped_40 : decode cX8_moped 40 = .ok (.invokevirtual 237, 3) := by decide +kernel
theorem dX8_moped_43 : decode cX8_moped 43 = .ok (.ireturn, 1) := by decide +kernel
theorem dX8_moped_44 : decode cX8_moped 44 = .ok (.iconst 0, 1) := by decide +kernel
theorem dX8_moped_45 : decode cX8_moped 45 = .ok (.istore 4, 2) := by decide +kernel
theorem dX8_moped_47 : decode cX8_moped 47 = .ok (.aload_n 0, 1) := by decide +kernel
theorem dX8_moped_48 : decode cX8_moped 48 = .ok (.iload 4, 2) := by decide +kernel
theorem dX8_moped_50 : decode cX8_moped 50 = .ok (.invokevirtual 237, 3) := by decide +kernel
theorem dX8_moped_53 : decode cX8_moped 53 = .ok (.aload_n 0, 1) := by decide +kernel
theorem dX8_moped_54 : decode cX8_moped 54 = .ok (.aload_n 0, 1) := by decide +kernel
theorem dX8_moped_55 : decode cX8_moped 55 = .ok (.getfield 64, 3) := by decide +kernel
theorem dX8_moped_58 : decode cX8_moped 58 = .ok (.invokevirtual 237, 3) := by decide +kernel
theorem dX8_moped_61 : decode cX8_moped 61 = .ok (.if_icmp .eq 9, 3) := by decide +kernel
theorem dX8_moped_64 : decode cX8_moped 64 = .ok (.iinc 4 1, 3) := by decide +kernel
theorem dX8_moped_67 : decode cX8_moped 67 = .ok (.goto (-20), 3) := by decide +kernel
theorem dX8_moped_70 : decode cX8_moped 70 = .ok (.iload 4, 2) := by decide +kernel
theorem dX8_moped_72 : decode cX8_moped 72 = .ok (.ireturn, 1) := by decide +kernel
theorem dX8_made_0 : decode cX8_made 0 = .ok (.iload_n 1, 1) := by decide +kernel
theorem dX8_made_1 : decode cX8_made 1 = .ok (.ifCond .lt 12, 3) := by decide +kernel
theorem dX8_made_4 : decode cX8_made 4 = .ok (.iload_n 2, 1) := by decide +kernel
theorem dX8_made_5 : decode cX8_made 5 = .ok (.iconst 1, 1) := by decide +kernel
theorem dX8_made_6 : decode cX8_made 6 = .ok (.if_icmp .lt 7, 3) := by decide +kernel
theorem dX8_made_9 : decode cX8_made 9 = .ok (.iload_n 3, 1) := by decide +kernel
theorem dX8_made_10 : decode cX8_made 10 = .ok (.ifCond .ge 8, 3) := by decide +kernel
theorem dX8_made_13 : decode cX8_made 13 = .ok (.bipush (-4), 2) := by decide +kernel
theorem dX8_made_15 : decode cX8_made 15 = .ok (.goto 27, 3) := by decide +kernel
theorem dX8_made_18 : decode cX8_made 18 = .ok (.iload_n 1, 1) := by decide +kernel
theorem dX8_made_19 : decode cX8_made 19 = .ok (.bipush 63, 2) := by decide +kernel
theorem dX8_made_21 : decode cX8_made 21 = .ok (.if_icmp .gt 15, 3) := by decide +kernel
theorem dX8_made_24 : decode cX8_made 24 = .ok (.iload_n 2, 1) := by decide +kernel
theorem dX8_made_25 : decode cX8_made 25 = .ok (.bipush 72, 2) := by decide +kernel
theorem dX8_made_27 : decode cX8_made 27 = .ok (.if_icmp .gt 9, 3) := by decide +kernel
theorem dX8_made_30 : decode cX8_made 30 = .ok (.iload_n 3, 1) := by decide +kernel
theorem dX8_made_31 : decode cX8_made 31 = .ok (.bipush 99, 2) := by decide +kernel
theorem dX8_made_33 : decode cX8_made 33 = .ok (.if_icmp .le 8, 3) := by decide +kernel
theorem dX8_made_36 : decode cX8_made 36 = .ok (.bipush (-6), 2) := by decide +kernel
theorem dX8_made_38 : decode cX8_made 38 = .ok (.goto 4, 3) := by decide +kernel
theorem dX8_made_41 : decode cX8_made 41 = .ok (.iconst 0, 1) := by decide +kernel
theorem dX8_made_42 : decode cX8_made 42 = .ok (.istore 4, 2) := by decide +kernel
theorem dX8_made_44 : decode cX8_made 44 = .ok (.iload 4, 2) := by decide +kernel
theorem dX8_made_46 : decode cX8_made 46 = .ok (.ifCond .eq 10, 3) := by decide +kernel
theorem dX8_made_49 : decode cX8_made 49 = .ok (.aload_n 0, 1) := by decide +kernel
theorem dX8_made_50 : decode cX8_made 50 = .ok (.iload 4, 2) := by decide +kernel
theorem dX8_made_52 : decode cX8_made 52 = .ok (.invokevirtual 77, 3) := by decide +kernel
theorem dX8_made_55 : decode cX8_made 55 = .ok (.ireturn, 1) := by decide +kernel
theorem dX8_made_56 : decode cX8_made 56 = .ok (.bipush (-9), 2) := by decide +kernel
theorem dX8_made_58 : decode cX8_made 58 = .ok (.istore 5, 2) := by decide +kernel
theorem dX8_made_60 : decode cX8_made 60 = .ok (.sipush 1000, 3) := by decide +kernel
theorem dX8_made_63 : decode cX8_made 63 = .ok (.istore 6, 2) := by decide +kernel
theorem dX8_made_65 : decode cX8_made 65 = .ok (.iconst 1, 1) := by decide +kernel
theorem dX8_made_66 : decode cX8_made 66 = .ok (.istore 7, 2) := by decide +kernel
theorem dX8_made_68 : decode cX8_made 68 = .ok (.iload 7, 2) := by decide +kernel
theorem dX8_made_70 : decode cX8_made 70 = .ok (.iconst 1, 1) := by decide +kernel
theorem dX8_made_71 : decode cX8_made 71 = .ok (.aload_n 0, 1) := by decide +kernel
theorem dX8_made_72 : decode cX8_made 72 = .ok (.getfield 61, 3) := by decide +kernel
theorem dX8_made_75 : decode cX8_made 75 = .ok (.ishl, 1) := by decide +kernel
theorem dX8_made_76 : decode cX8_made 76 = .ok (.if_icmp .ge 66, 3) := by decide +kernel
theorem dX8_made_79 : decode cX8_made 79 = .ok (.aload_n 0, 1) := by decide +kernel
theorem dX8_made_80 : decode cX8_made 80 = .ok (.iload 7, 2) := by decide +kernel
theorem dX8_made_82 : decode cX8_made 82 = .ok (.aload_n 0, 1) := by decide +kernel
theorem dX8_made_83 : decode cX8_made 83 = .ok (.getfield 52, 3) := by decide +kernel
theorem dX8_made_86 : decode cX8_made 86 = .ok (.invokevirtual 197, 3) := by decide +kernel
theorem dX8_made_89 : decode cX8_made 89 = .ok (.iload_n 3, 1) := by decide +kernel
theorem dX8_made_90 : decode cX8_made 90 = .ok (.invokestatic 231, 3) := by decide +kernel
theorem dX8_made_93 : decode cX8_made 93 = .ok (.istore 8, 2) := by decide +kernel
theorem dX8_made_95 : decode cX8_made 95 = .ok (.iload_n 1, 1) := by decide +kernel
theorem dX8_made_96 : decode cX8_made 96 = .ok (.aload_n 0, 1) := by decide +kernel
theorem dX8_made_97 : decode cX8_made 97 = .ok (.iload 7, 2) := by decide +kernel
theorem dX8_made_99 : decode cX8_made 99 = .ok (.invokevirtual 200, 3) := by decide +kernel
theorem dX8_made_102 : decode cX8_made 102 = .ok (.iconst (-1), 1) := by decide +kernel
theorem dX8_made_103 : decode cX8_made 103 = .ok (.ixor, 1) := by decide +kernel
theorem dX8_made_104 : decode cX8_made 104 = .ok (.iand, 1) := by decide +kernel
theorem dX8_made_105 : decode cX8_made 105 = .ok (.ifCond .ne 31, 3) := by decide +kernel
theorem dX8_made_108 : decode cX8_made 108 = .ok (.aload_n 0, 1) := by decide +kernel
theorem dX8_made_109 : decode cX8_made 109 = .ok (.iload 7, 2) := by decide +kernel
theorem dX8_made_111 : decode cX8_made 111 = .ok (.invokevirtual 194, 3) := by decide +kernel
theorem dX8_made_114 : decode cX8_made 114 = .ok (.iload_n 2, 1) := by decide +kernel
theorem dX8_made_115 : decode cX8_made 115 = .ok (.if_icmp .gt 21, 3) := by decide +kernel
theorem dX8_made_118 : decode cX8_made 118 = .ok (.iload 8, 2) := by decide +kernel
theorem dX8_made_120 : decode cX8_made 120 = .ok (.iload 6, 2) := by decide +kernel
theorem dX8_made_122 : decode cX8_made 122 = .ok (.if_icmp .lt 6, 3) := by decide +kernel
theorem dX8_made_125 : decode cX8_made 125 = .ok (.goto 11, 3) := by decide +kernel
theorem dX8_made_128 : decode cX8_made 128 = .ok (.iload 7, 2) := by decide +kernel
theorem dX8_made_130 : decode cX8_made 130 = .ok (.istore 5, 2) := by decide +kernel
theorem dX8_made_132 : decode cX8_made 132 = .ok (.iload 8, 2) := by decide +kernel
theorem dX8_made_134 : decode cX8_made 134 = .ok (.istore 6, 2) := by decide +kernel
theorem dX8_made_136 : decode cX8_made 136 = .ok (.iinc 7 1, 3) := by decide +kernel
theorem dX8_made_139 : decode cX8_made 139 = .ok (.goto (-71), 3) := by decide +kernel
theorem dX8_made_142 : decode cX8_made 142 = .ok (.iload 5, 2) := by decide +kernel
theorem dX8_made_144 : decode cX8_made 144 = .ok (.ireturn, 1) := by decide +kernel
theorem dX8_unlike_0 : decode cX8_unlike 0 = .ok (.aload_n 0, 1) := by decide +kernel
theorem dX8_unlike_1 : decode cX8_unlike 1 = .ok (.iconst 1, 1) := by decide +kernel
theorem dX8_unlike_2 : decode cX8_unlike 2 = .ok (.aload_n 0, 1) := by decide +kernel
theorem dX8_unlike_3 : decode cX8_unlike 3 = .ok (.getfield 61, 3) := by decide +kernel
theorem dX8_unlike_6 : decode cX8_unlike 6 = .ok (.ishl, 1) := by decide +kernel
theorem dX8_unlike_7 : decode cX8_unlike 7 = .ok (.iconst 1, 1) := by decide +kernel
theorem dX8_unlike_8 : decode cX8_unlike 8 = .ok (.isub, 1) := by decide +kernel
theorem dX8_unlike_9 : decode cX8_unlike 9 = .ok (.invokevirtual 200, 3) := by decide +kernel
theorem dX8_unlike_12 : decode cX8_unlike 12 = .ok (.istore_n 1, 1) := by decide +kernel
theorem dX8_unlike_13 : decode cX8_unlike 13 = .ok (.bipush (-9), 2) := by decide +kernel
theorem dX8_unlike_15 : decode cX8_unlike 15 = .ok (.istore_n 2, 1) := by decide +kernel
theorem dX8_unlike_16 : decode cX8_unlike 16 = .ok (.bipush 9, 2) := by decide +kernel
theorem dX8_unlike_18 : decode cX8_unlike 18 = .ok (.istore_n 3, 1) := by decide +kernel
theorem dX8_unlike_19 : decode cX8_unlike 19 = .ok (.iconst 0, 1) := by decide +kernel
theorem dX8_unlike_20 : decode cX8_unlike 20 = .ok (.istore 4, 2) := by decide +kernel
theorem dX8_unlike_22 : decode cX8_unlike 22 = .ok (.iload 4, 2) := by decide +kernel
theorem dX8_unlike_24 : decode cX8_unlike 24 = .ok (.aload_n 0, 1) := by decide +kernel
theorem dX8_unlike_25 : decode cX8_unlike 25 = .ok (.getfield 64, 3) := by decide +kernel
theorem dX8_unlike_28 : decode cX8_unlike 28 = .ok (.if_icmp .ge 94, 3) := by decide +kernel
theorem dX8_unlike_31 : decode cX8_unlike 31 = .ok (.iload 4, 2) := by decide +kernel
theorem dX8_unlike_33 : decode cX8_unlike 33 = .ok (.iconst 1, 1) := by decide +kernel
theorem dX8_unlike_34 : decode cX8_unlike 34 = .ok (.iadd, 1) := by decide +kernel
theorem dX8_unlike_35 : decode cX8_unlike 35 = .ok (.istore 5, 2) := by decide +kernel
theorem dX8_unlike_37 : decode cX8_unlike 37 = .ok (.iload 5, 2) := by decide +kernel
theorem dX8_unlike_39 : decode cX8_unlike 39 = .ok (.aload_n 0, 1) := by decide +kernel
theorem dX8_unlike_40 : decode cX8_unlike 40 = .ok (.getfield 64, 3) := by decide +kernel
theorem dX8_unlike_43 : decode cX8_unlike 43 = .ok (.if_icmp .ge 73, 3) := by decide +kernel
theorem dX8_unlike_46 : decode cX8_unlike 46 = .ok (.aload_n 0, 1) := by decide +kernel
theorem dX8_unlike_47 : decode cX8_unlike 47 = .ok (.getfield 22, 3) := by decide +kernel
theorem dX8_unlike_50 : decode cX8_unlike 50 = .ok (.iload 4, 2) := by decide +kernel
theorem dX8_unlike_52 : decode cX8_unlike 52 = .ok (.iaload, 1) := by decide +kernel
theorem dX8_unlike_53 : decode cX8_unlike 53 = .ok (.aload_n 0, 1) := by decide +kernel
theorem dX8_unlike_54 : decode cX8_unlike 54 = .ok (.getfield 22, 3) := by decide +kernel
theorem dX8_unlike_57 : decode cX8_unlike 57 = .ok (.iload 5, 2) := by decide +kernel
theorem dX8_unlike_59 : decode cX8_unlike 59 = .ok (.iaload, 1) := by decide +kernel
theorem dX8_unlike_60 : decode cX8_unlike 60 = .ok (.iand, 1) := by decide +kernel
theorem dX8_unlike_61 : decode cX8_unlike 61 = .ok (.invokestatic 212, 3) := by decide +kernel
theorem dX8_unlike_64 : decode cX8_unlike 64 = .ok (.istore 6, 2) := by decide +kernel
theorem dX8_unlike_66 : decode cX8_unlike 66 = .ok (.aload_n 0, 1) := by decide +kernel
theorem dX8_unlike_67 : decode cX8_unlike 67 = .ok (.aload_n 0, 1) := by decide +kernel
theorem dX8_unlike_68 : decode cX8_unlike 68 = .ok (.getfield 22, 3) := by decide +kernel
theorem dX8_unlike_71 : decode cX8_unlike 71 = .ok (.iload 4, 2) := by decide +kernel
theorem dX8_unlike_73 : decode cX8_unlike 73 = .ok (.iaload, 1) := by decide +kernel
theorem dX8_unlike_74 : decode cX8_unlike 74 = .ok (.aload_n 0, 1) := by decide +kernel
theorem dX8_unlike_75 : decode cX8_unlike 75 = .ok (.getfield 22, 3) := by decide +kernel
theorem dX8_unlike_78 : decode cX8_unlike 78 = .ok (.iload 5, 2) := by decide +kernel
theorem dX8_unlike_80 : decode cX8_unlike 80 = .ok (.iaload, 1) := by decide +kernel
theorem dX8_unlike_81 : decode cX8_unlike 81 = .ok (.ior, 1) := by decide +kernel
theorem dX8_unlike_82 : decode cX8_unlike 82 = .ok (.invokevirtual 200, 3) := by decide +kernel
theorem dX8_unlike_85 : decode cX8_unlike 85 = .ok (.iload_n 1, 1) := by decide +kernel
theorem dX8_unlike_86 : decode cX8_unlike 86 = .ok (.if_icmp .ne 24, 3) := by decide +kernel
theorem dX8_unlike_89 : decode cX8_unlike 89 = .ok (.iload 6, 2) := by decide +kernel
theorem dX8_unlike_91 : decode cX8_unlike 91 = .ok (.iload_n 3, 1) := by decide +kernel
theorem dX8_unlike_92 : decode cX8_unlike 92 = .ok (.if_icmp .lt 6, 3) := by decide +kernel
theorem dX8_unlike_95 : decode cX8_unlike 95 = .ok (.goto 15, 3) := by decide +kernel
theorem dX8_unlike_98 : decode cX8_unlike 98 = .ok (.bipush 10, 2) := by decide +kernel
theorem dX8_unlike_100 : decode cX8_unlike 100 = .ok (.iload 4, 2) := by decide +kernel
theorem dX8_unlike_102 : decode cX8_unlike 102 = .ok (.imul, 1) := by decide +kernel
theorem dX8_unlike_103 : decode cX8_unlike 103 = .ok (.iload 5, 2) := by decide +kernel
theorem dX8_unlike_105 : decode cX8_unlike 105 = .ok (.iadd, 1) := by decide +kernel
theorem dX8_unlike_106 : decode cX8_unlike 106 = .ok (.istore_n 2, 1) := by decide +kernel
theorem dX8_unlike_107 : decode cX8_unlike 107 = .ok (.iload 6, 2) := by decide +kernel
theorem dX8_unlike_109 : decode cX8_unlike 109 = .ok (.istore_n 3, 1) := by decide +kernel
theorem dX8_unlike_110 : decode cX8_unlike 110 = .ok (.iinc 5 1, 3) := by decide +kernel
theorem dX8_unlike_113 : decode cX8_unlike 113 = .ok (.goto (-76), 3) := by decide +kernel
theorem dX8_unlike_116 : decode cX8_unlike 116 = .ok (.iinc 4 1, 3) := by decide +kernel
theorem dX8_unlike_119 : decode cX8_unlike 119 = .ok (.goto (-97), 3) := by decide +kernel
theorem dX8_unlike_122 : decode cX8_unlike 122 = .ok (.iload_n 2, 1) := by decide +kernel
theorem dX8_unlike_123 : decode cX8_unlike 123 = .ok (.ireturn, 1) := by decide +kernel
theorem dX8_isSo_0 : decode cX8_isSo 0 = .ok (.iconst 0, 1) := by decide +kernel
theorem dX8_isSo_1 : decode cX8_isSo 1 = .ok (.istore_n 3, 1) := by decide +kernel
theorem dX8_isSo_2 : decode cX8_isSo 2 = .ok (.iload_n 3, 1) := by decide +kernel
theorem dX8_isSo_3 : decode cX8_isSo 3 = .ok (.aload_n 0, 1) := by decide +kernel
theorem dX8_isSo_4 : decode cX8_isSo 4 = .ok (.getfield 240, 3) := by decide +kernel
theorem dX8_isSo_7 : decode cX8_isSo 7 = .ok (.if_icmp .ge 46, 3) := by decide +kernel
theorem dX8_isSo_10 : decode cX8_isSo 10 = .ok (.aload_n 0, 1) := by decide +kernel
theorem dX8_isSo_11 : decode cX8_isSo 11 = .ok (.getfield 46, 3) := by decide +kernel
theorem dX8_isSo_14 : decode cX8_isSo 14 = .ok (.iload_n 3, 1) := by decide +kernel
theorem dX8_isSo_15 : decode cX8_isSo 15 = .ok (.iaload, 1) := by decide +kernel
theorem dX8_isSo_16 : decode cX8_isSo 16 = .ok (.iconst 2, 1) := by decide +kernel
theorem dX8_isSo_17 : decode cX8_isSo 17 = .ok (.if_icmp .ge 30, 3) := by decide +kernel
theorem dX8_isSo_20 : decode cX8_isSo 20 = .ok (.aload_n 0, 1) := by decide +kernel
theorem dX8_isSo_21 : decode cX8_isSo 21 = .ok (.iload_n 3, 1) := by decide +kernel
theorem dX8_isSo_22 : decode cX8_isSo 22 = .ok (.iload_n 1, 1) := by decide +kernel
theorem dX8_isSo_23 : decode cX8_isSo 23 = .ok (.iload_n 2, 1) := by decide +kernel
theorem dX8_isSo_24 : decode cX8_isSo 24 = .ok (.invokevirtual 185, 3) := by decide +kernel
theorem dX8_isSo_27 : decode cX8_isSo 27 = .ok (.aload_n 0, 1) := by decide +kernel
theorem dX8_isSo_28 : decode cX8_isSo 28 = .ok (.getfield 46, 3) := by decide +kernel
theorem dX8_isSo_31 : decode cX8_isSo 31 = .ok (.iload_n 3, 1) := by decide +kernel
theorem dX8_isSo_32 : decode cX8_isSo 32 = .ok (.iaload, 1) := by decide +kernel
theorem dX8_isSo_33 : decode cX8_isSo 33 = .ok (.iconst 1, 1) := by decide +kernel
theorem dX8_isSo_34 : decode cX8_isSo 34 = .ok (.if_icmp .ne 7, 3) := by decide +kernel
theorem dX8_isSo_37 : decode cX8_isSo 37 = .ok (.iconst 1, 1) := by decide +kernel
theorem dX8_isSo_38 : decode cX8_isSo 38 = .ok (.goto 4, 3) := by decide +kernel
theorem dX8_isSo_41 : decode cX8_isSo 41 = .ok (.iconst 0, 1) := by decide +kernel
theorem dX8_isSo_42 : decode cX8_isSo 42 = .ok (.if_icmp .eq 5, 3) := by decide +kernel
theorem dX8_isSo_45 : decode cX8_isSo 45 = .ok (.iconst 0, 1) := by decide +kernel
theorem dX8_isSo_46 : decode cX8_isSo 46 = .ok (.ireturn, 1) := by decide +kernel
theorem dX8_isSo_47 : decode cX8_isSo 47 = .ok (.iinc 3 1, 3) := by decide +kernel
theorem dX8_isSo_50 : decode cX8_isSo 50 = .ok (.goto (-48), 3) := by decide +kernel
theorem dX8_isSo_53 : decode cX8_isSo 53 = .ok (.iconst 1, 1) := by decide +kernel
theorem dX8_isSo_54 : decode cX8_isSo 54 = .ok (.ireturn, 1) := by decide +kernel
theorem dX8_notTold_0 : decode cX8_notTold 0 = .ok (.iconst 0, 1) := by decide +kernel
theorem dX8_notTold_1 : decode cX8_notTold 1 = .ok (.istore_n 1, 1) := by decide +kernel
theorem dX8_notTold_2 : decode cX8_notTold 2 = .ok (.iload_n 1, 1) := by decide +kernel
theorem dX8_notTold_3 : decode cX8_notTold 3 = .ok (.aload_n 0, 1) := by decide +kernel
theorem dX8_notTold_4 : decode cX8_notTold 4 = .ok (.getfield 240, 3) := by decide +kernel
theorem dX8_notTold_7 : decode cX8_notTold 7 = .ok (.if_icmp .ge 22, 3) := by decide +kernel
theorem dX8_notTold_10 : decode cX8_notTold 10 = .ok (.aload_n 0, 1) := by decide +kernel
theorem dX8_notTold_11 : decode cX8_notTold 11 = .ok (.getfield 46, 3) := by decide +kernel
theorem dX8_notTold_14 : decode cX8_notTold 14 = .ok (.iload_n 1, 1) := by decide +kernel
theorem dX8_notTold_15 : decode cX8_notTold 15 = .ok (.iaload, 1) := by decide +kernel
theorem dX8_notTold_16 : decode cX8_notTold 16 = .ok (.iconst 2, 1) := by decide +kernel
theorem dX8_notTold_17 : decode cX8_notTold 17 = .ok (.if_icmp .le 6, 3) := by decide +kernel
theorem dX8_notTold_20 : decode cX8_notTold 20 = .ok (.bipush (-3), 2) := by decide +kernel
theorem dX8_notTold_22 : decode cX8_notTold 22 = .ok (.ireturn, 1) := by decide +kernel
theorem dX8_notTold_23 : decode cX8_notTold 23 = .ok (.iinc 1 1, 3) := by decide +kernel
theorem dX8_notTold_26 : decode cX8_notTold 26 = .ok (.goto (-24), 3) := by decide +kernel
theorem dX8_notTold_29 : decode cX8_notTold 29 = .ok (.aload_n 0, 1) := by decide +kernel
theorem dX8_notTold_30 : decode cX8_notTold 30 = .ok (.getfield 240, 3) := by decide +kernel
theorem dX8_notTold_33 : decode cX8_notTold 33 = .ok (.aload_n 0, 1) := by decide +kernel
theorem dX8_notTold_34 : decode cX8_notTold 34 = .ok (.getfield 67, 3) := by decide +kernel
theorem dX8_notTold_37 : decode cX8_notTold 37 = .ok (.if_icmp .le 8, 3) := by decide +kernel
theorem dX8_notTold_40 : decode cX8_notTold 40 = .ok (.bipush (-3), 2) := by decide +kernel
theorem dX8_notTold_42 : decode cX8_notTold 42 = .ok (.goto 4, 3) := by decide +kernel
theorem dX8_notTold_45 : decode cX8_notTold 45 = .ok (.iconst 0, 1) := by decide +kernel
theorem dX8_notTold_46 : decode cX8_notTold 46 = .ok (.ireturn, 1) := by decide +kernel
theorem dX8_whenSo_0 : decode cX8_whenSo 0 = .ok (.iconst 0, 1) := by decide +kernel
theorem dX8_whenSo_1 : decode cX8_whenSo 1 = .ok (.istore_n 2, 1) := by decide +kernel
theorem dX8_whenSo_2 : decode cX8_whenSo 2 = .ok (.iconst 0, 1) := by decide +kernel
theorem dX8_whenSo_3 : decode cX8_whenSo 3 = .ok (.istore_n 3, 1) := by decide +kernel
theorem dX8_whenSo_4 : decode cX8_whenSo 4 = .ok (.iload_n 3, 1) := by decide +kernel
theorem dX8_whenSo_5 : decode cX8_whenSo 5 = .ok (.bipush 24, 2) := by decide +kernel
theorem dX8_whenSo_7 : decode cX8_whenSo 7 = .ok (.if_icmp .ge 28, 3) := by decide +kernel
theorem dX8_whenSo_10 : decode cX8_whenSo 10 = .ok (.iload_n 2, 1) := by decide +kernel
theorem dX8_whenSo_11 : decode cX8_whenSo 11 = .ok (.aload_n 0, 1) := by decide +kernel
theorem dX8_whenSo_12 : decode cX8_whenSo 12 = .ok (.iload_n 1, 1) := by decide +kernel
theorem dX8_whenSo_13 : decode cX8_whenSo 13 = .ok (.iload_n 3, 1) := by decide +kernel
theorem dX8_whenSo_14 : decode cX8_whenSo 14 = .ok (.invokevirtual 243, 3) := by decide +kernel
theorem dX8_whenSo_17 : decode cX8_whenSo 17 = .ok (.ifCond .eq 9, 3) := by decide +kernel
theorem dX8_whenSo_20 : decode cX8_whenSo 20 = .ok (.iconst 1, 1) := by decide +kernel
theorem dX8_whenSo_21 : decode cX8_whenSo 21 = .ok (.iload_n 3, 1) := by decide +kernel
theorem dX8_whenSo_22 : decode cX8_whenSo 22 = .ok (.ishl, 1) := by decide +kernel
theorem dX8_whenSo_23 : decode cX8_whenSo 23 = .ok (.goto 4, 3) := by decide +kernel
theorem dX8_whenSo_26 : decode cX8_whenSo 26 = .ok (.iconst 0, 1) := by decide +kernel
theorem dX8_whenSo_27 : decode cX8_whenSo 27 = .ok (.ior, 1) := by decide +kernel
theorem dX8_whenSo_28 : decode cX8_whenSo 28 = .ok (.istore_n 2, 1) := by decide +kernel
theorem dX8_whenSo_29 : decode cX8_whenSo 29 = .ok (.iinc 3 1, 3) := by decide +kernel
theorem dX8_whenSo_32 : decode cX8_whenSo 32 = .ok (.goto (-28), 3) := by decide +kernel
theorem dX8_whenSo_35 : decode cX8_whenSo 35 = .ok (.iload_n 2, 1) := by decide +kernel
theorem dX8_whenSo_36 : decode cX8_whenSo 36 = .ok (.ireturn, 1) := by decide +kernel
theorem dX8_strict_0 : decode cX8_strict 0 = .ok (.aload_n 0, 1) := by decide +kernel
theorem dX8_strict_1 : decode cX8_strict 1 = .ok (.iload_n 1, 1) := by decide +kernel
theorem dX8_strict_2 : decode cX8_strict 2 = .ok (.invokevirtual 120, 3) := by decide +kernel
theorem dX8_strict_5 : decode cX8_strict 5 = .ok (.ifCond .ne 7, 3) := by decide +kernel
theorem dX8_strict_8 : decode cX8_strict 8 = .ok (.iconst (-1), 1) := by decide +kernel
theorem dX8_strict_9 : decode cX8_strict 9 = .ok (.goto 21, 3) := by decide +kernel
theorem dX8_strict_12 : decode cX8_strict 12 = .ok (.iload_n 2, 1) := by decide +kernel
theorem dX8_strict_13 : decode cX8_strict 13 = .ok (.iconst 0, 1) := by decide +kernel
theorem dX8_strict_14 : decode cX8_strict 14 = .ok (.iconst 2, 1) := by decide +kernel
theorem dX8_strict_15 : decode cX8_strict 15 = .ok (.invokestatic 88, 3) := by decide +kernel
theorem dX8_strict_18 : decode cX8_strict 18 = .ok (.ifCond .ne 8, 3) := by decide +kernel
theorem dX8_strict_21 : decode cX8_strict 21 = .ok (.bipush (-2), 2) := by decide +kernel
theorem dX8_strict_23 : decode cX8_strict 23 = .ok (.goto 7, 3) := by decide +kernel
theorem dX8_strict_26 : decode cX8_strict 26 = .ok (.aload_n 0, 1) := by decide +kernel
theorem dX8_strict_27 : decode cX8_strict 27 = .ok (.invokevirtual 246, 3) := by decide +kernel
theorem dX8_strict_30 : decode cX8_strict 30 = .ok (.istore_n 3, 1) := by decide +kernel
theorem dX8_strict_31 : decode cX8_strict 31 = .ok (.iload_n 3, 1) := by decide +kernel
theorem dX8_strict_32 : decode cX8_strict 32 = .ok (.ifCond .eq 9, 3) := by decide +kernel
theorem dX8_strict_35 : decode cX8_strict 35 = .ok (.aload_n 0, 1) := by decide +kernel
theorem dX8_strict_36 : decode cX8_strict 36 = .ok (.iload_n 3, 1) := by decide +kernel
theorem dX8_strict_37 : decode cX8_strict 37 = .ok (.invokevirtual 77, 3) := by decide +kernel
theorem dX8_strict_40 : decode cX8_strict 40 = .ok (.ireturn, 1) := by decide +kernel
theorem dX8_strict_41 : decode cX8_strict 41 = .ok (.iload_n 2, 1) := by decide +kernel
theorem dX8_strict_42 : decode cX8_strict 42 = .ok (.iconst 2, 1) := by decide +kernel
theorem dX8_strict_43 : decode cX8_strict 43 = .ok (.if_icmp .ne 9, 3) := by decide +kernel
theorem dX8_strict_46 : decode cX8_strict 46 = .ok (.aload_n 0, 1) := by decide +kernel
theorem dX8_strict_47 : decode cX8_strict 47 = .ok (.iload_n 1, 1) := by decide +kernel
theorem dX8_strict_48 : decode cX8_strict 48 = .ok (.invokevirtual 249, 3) := by decide +kernel
theorem dX8_strict_51 : decode cX8_strict 51 = .ok (.ireturn, 1) := by decide +kernel
theorem dX8_strict_52 : decode cX8_strict 52 = .ok (.aload_n 0, 1) := by decide +kernel
theorem dX8_strict_53 : decode cX8_strict 53 = .ok (.getfield 56, 3) := by decide +kernel
theorem dX8_strict_56 : decode cX8_strict 56 = .ok (.istore 4, 2) := by decide +kernel
theorem dX8_strict_58 : decode cX8_strict 58 = .ok (.iconst 0, 1) := by decide +kernel
theorem dX8_strict_59 : decode cX8_strict 59 = .ok (.istore 5, 2) := by decide +kernel
theorem dX8_strict_61 : decode cX8_strict 61 = .ok (.bipush (-9), 2) := by decide +kernel
theorem dX8_strict_63 : decode cX8_strict 63 = .ok (.istore 6, 2) := by decide +kernel
theorem dX8_strict_65 : decode cX8_strict 65 = .ok (.aload_n 0, 1) := by decide +kernel
theorem dX8_strict_66 : decode cX8_strict 66 = .ok (.bipush 99, 2) := by decide +kernel
theorem dX8_strict_68 : decode cX8_strict 68 = .ok (.putfield 56, 3) := by decide +kernel
theorem dX8_strict_71 : decode cX8_strict 71 = .ok (.aload_n 0, 1) := by decide +kernel
theorem dX8_strict_72 : decode cX8_strict 72 = .ok (.getfield 56, 3) := by decide +kernel
theorem dX8_strict_75 : decode cX8_strict 75 = .ok (.ifCond .lt 40, 3) := by decide +kernel
theorem dX8_strict_78 : decode cX8_strict 78 = .ok (.aload_n 0, 1) := by decide +kernel
theorem dX8_strict_79 : decode cX8_strict 79 = .ok (.iload_n 1, 1) := by decide +kernel
theorem dX8_strict_80 : decode cX8_strict 80 = .ok (.aload_n 0, 1) := by decide +kernel
theorem dX8_strict_81 : decode cX8_strict 81 = .ok (.getfield 52, 3) := by decide +kernel
theorem dX8_strict_84 : decode cX8_strict 84 = .ok (.invokevirtual 243, 3) := by decide +kernel
theorem dX8_strict_87 : decode cX8_strict 87 = .ok (.ifCond .ne 6, 3) := by decide +kernel
theorem dX8_strict_90 : decode cX8_strict 90 = .ok (.goto 12, 3) := by decide +kernel
theorem dX8_strict_93 : decode cX8_strict 93 = .ok (.iinc 5 1, 3) := by decide +kernel
theorem dX8_strict_96 : decode cX8_strict 96 = .ok (.aload_n 0, 1) := by decide +kernel
theorem dX8_strict_97 : decode cX8_strict 97 = .ok (.getfield 56, 3) := by decide +kernel
theorem dX8_strict_100 : decode cX8_strict 100 = .ok (.istore 6, 2) := by decide +kernel
theorem dX8_strict_102 : decode cX8_strict 102 = .ok (.aload_n 0, 1) := by decide +kernel
theorem dX8_strict_103 : decode cX8_strict 103 = .ok (.dup, 1) := by decide +kernel
theorem dX8_strict_104 : decode cX8_strict 104 = .ok (.getfield 56, 3) := by decide +kernel
theorem dX8_strict_107 : decode cX8_strict 107 = .ok (.iconst 1, 1) := by decide +kernel
theorem dX8_strict_108 : decode cX8_strict 108 = .ok (.isub, 1) := by decide +kernel
theorem dX8_strict_109 : decode cX8_strict 109 = .ok (.putfield 56, 3) := by decide +kernel
theorem dX8_strict_112 : decode cX8_strict 112 = .ok (.goto (-41), 3) := by decide +kernel
theorem dX8_strict_115 : decode cX8_strict 115 = .ok (.aload_n 0, 1) := by decide +kernel
theorem dX8_strict_116 : decode cX8_strict 116 = .ok (.iload 4, 2) := by decide +kernel
theorem dX8_strict_118 : decode cX8_strict 118 = .ok (.putfield 56, 3) := by decide +kernel
theorem dX8_strict_121 : decode cX8_strict 121 = .ok (.iload_n 2, 1) := by decide +kernel
theorem dX8_strict_122 : decode cX8_strict 122 = .ok (.ifCond .ne 8, 3) := by decide +kernel
theorem dX8_strict_125 : decode cX8_strict 125 = .ok (.iload 5, 2) := by decide +kernel
theorem dX8_strict_127 : decode cX8_strict 127 = .ok (.goto 5, 3) := by decide +kernel
theorem dX8_strict_130 : decode cX8_strict 130 = .ok (.iload 6, 2) := by decide +kernel
theorem dX8_strict_132 : decode cX8_strict 132 = .ok (.ireturn, 1) := by decide +kernel
theorem dX8_passesLater_0 : decode cX8_passesLater 0 = .ok (.aload_n 0, 1) := by decide +kernel
theorem dX8_passesLater_1 : decode cX8_passesLater 1 = .ok (.iload_n 1, 1) := by decide +kernel
theorem dX8_passesLater_2 : decode cX8_passesLater 2 = .ok (.iload_n 2, 1) := by decide +kernel
theorem dX8_passesLater_3 : decode cX8_passesLater 3 = .ok (.aload_n 0, 1) := by decide +kernel
theorem dX8_passesLater_4 : decode cX8_passesLater 4 = .ok (.getfield 52, 3) := by decide +kernel
theorem dX8_passesLater_7 : decode cX8_passesLater 7 = .ok (.aload_n 0, 1) := by decide +kernel
theorem dX8_passesLater_8 : decode cX8_passesLater 8 = .ok (.getfield 67, 3) := by decide +kernel
theorem dX8_passesLater_11 : decode cX8_passesLater 11 = .ok (.iadd, 1) := by decide +kernel
theorem dX8_passesLater_12 : decode cX8_passesLater 12 = .ok (.iload_n 3, 1) := by decide +kernel
theorem dX8_passesLater_13 : decode cX8_passesLater 13 = .ok (.invokestatic 212, 3) := by decide +kernel
theorem dX8_passesLater_16 : decode cX8_passesLater 16 = .ok (.isub, 1) := by decide +kernel
theorem dX8_passesLater_17 : decode cX8_passesLater 17 = .ok (.bipush 24, 2) := by decide +kernel
theorem dX8_passesLater_19 : decode cX8_passesLater 19 = .ok (.irem, 1) := by decide +kernel
theorem dX8_passesLater_20 : decode cX8_passesLater 20 = .ok (.invokevirtual 185, 3) := by decide +kernel
theorem dX8_passesLater_23 : decode cX8_passesLater 23 = .ok (.ifCond .eq 7, 3) := by decide +kernel
theorem dX8_passesLater_26 : decode cX8_passesLater 26 = .ok (.iconst 1, 1) := by decide +kernel
theorem dX8_passesLater_27 : decode cX8_passesLater 27 = .ok (.goto 4, 3) := by decide +kernel
theorem dX8_passesLater_30 : decode cX8_passesLater 30 = .ok (.iconst 0, 1) := by decide +kernel
theorem dX8_passesLater_31 : decode cX8_passesLater 31 = .ok (.ireturn, 1) := by decide +kernel
theorem dX8_findQueue_0 : decode cX8_findQueue 0 = .ok (.iconst 0, 1) := by decide +kernel
theorem dX8_findQueue_1 : decode cX8_findQueue 1 = .ok (.istore_n 2, 1) := by decide +kernel
theorem dX8_findQueue_2 : decode cX8_findQueue 2 = .ok (.iload_n 2, 1) := by decide +kernel
theorem dX8_findQueue_3 : decode cX8_findQueue 3 = .ok (.iconst 1, 1) := by decide +kernel
theorem dX8_findQueue_4 : decode cX8_findQueue 4 = .ok (.aload_n 0, 1) := by decide +kernel
theorem dX8_findQueue_5 : decode cX8_findQueue 5 = .ok (.getfield 67, 3) := by decide +kernel
theorem dX8_findQueue_8 : decode cX8_findQueue 8 = .ok (.ishl, 1) := by decide +kernel
theorem dX8_findQueue_9 : decode cX8_findQueue 9 = .ok (.if_icmp .ge 94, 3) := by decide +kernel
theorem dX8_findQueue_12 : decode cX8_findQueue 12 = .ok (.aload_n 0, 1) := by decide +kernel
theorem dX8_findQueue_13 : decode cX8_findQueue 13 = .ok (.getfield 49, 3) := by decide +kernel
theorem dX8_findQueue_16 : decode cX8_findQueue 16 = .ok (.iload_n 2, 1) := by decide +kernel
theorem dX8_findQueue_17 : decode cX8_findQueue 17 = .ok (.iconst 0, 1) := by decide +kernel
theorem dX8_findQueue_18 : decode cX8_findQueue 18 = .ok (.iastore, 1) := by decide +kernel
theorem dX8_findQueue_19 : decode cX8_findQueue 19 = .ok (.iconst 0, 1) := by decide +kernel
theorem dX8_findQueue_20 : decode cX8_findQueue 20 = .ok (.istore_n 3, 1) := by decide +kernel
theorem dX8_findQueue_21 : decode cX8_findQueue 21 = .ok (.iload_n 3, 1) := by decide +kernel
theorem dX8_findQueue_22 : decode cX8_findQueue 22 = .ok (.aload_n 0, 1) := by decide +kernel
theorem dX8_findQueue_23 : decode cX8_findQueue 23 = .ok (.getfield 67, 3) := by decide +kernel
theorem dX8_findQueue_26 : decode cX8_findQueue 26 = .ok (.if_icmp .ge 71, 3) := by decide +kernel
theorem dX8_findQueue_29 : decode cX8_findQueue 29 = .ok (.iload_n 2, 1) := by decide +kernel
theorem dX8_findQueue_30 : decode cX8_findQueue 30 = .ok (.iload_n 3, 1) := by decide +kernel
theorem dX8_findQueue_31 : decode cX8_findQueue 31 = .ok (.invokestatic 173, 3) := by decide +kernel
theorem dX8_findQueue_34 : decode cX8_findQueue 34 = .ok (.ifCond .eq 26, 3) := by decide +kernel
theorem dX8_findQueue_37 : decode cX8_findQueue 37 = .ok (.aload_n 0, 1) := by decide +kernel
theorem dX8_findQueue_38 : decode cX8_findQueue 38 = .ok (.iload_n 3, 1) := by decide +kernel
theorem dX8_findQueue_39 : decode cX8_findQueue 39 = .ok (.iload_n 1, 1) := by decide +kernel
theorem dX8_findQueue_40 : decode cX8_findQueue 40 = .ok (.iload_n 2, 1) := by decide +kernel
theorem dX8_findQueue_41 : decode cX8_findQueue 41 = .ok (.invokevirtual 252, 3) := by decide +kernel
theorem dX8_findQueue_44 : decode cX8_findQueue 44 = .ok (.aload_n 0, 1) := by decide +kernel
theorem dX8_findQueue_45 : decode cX8_findQueue 45 = .ok (.getfield 49, 3) := by decide +kernel
theorem dX8_findQueue_48 : decode cX8_findQueue 48 = .ok (.iload_n 2, 1) := by decide +kernel
theorem dX8_findQueue_49 : decode cX8_findQueue 49 = .ok (.iconst 1, 1) := by decide +kernel
theorem dX8_findQueue_50 : decode cX8_findQueue 50 = .ok (.iload_n 3, 1) := by decide +kernel
theorem dX8_findQueue_51 : decode cX8_findQueue 51 = .ok (.ishl, 1) := by decide +kernel
theorem dX8_findQueue_52 : decode cX8_findQueue 52 = .ok (.iconst (-1), 1) := by decide +kernel
theorem dX8_findQueue_53 : decode cX8_findQueue 53 = .ok (.ixor, 1) := by decide +kernel
theorem dX8_findQueue_54 : decode cX8_findQueue 54 = .ok (.iand, 1) := by decide +kernel
theorem dX8_findQueue_55 : decode cX8_findQueue 55 = .ok (.iaload, 1) := by decide +kernel
theorem dX8_findQueue_56 : decode cX8_findQueue 56 = .ok (.iadd, 1) := by decide +kernel
theorem dX8_findQueue_57 : decode cX8_findQueue 57 = .ok (.goto 4, 3) := by decide +kernel
theorem dX8_findQueue_60 : decode cX8_findQueue 60 = .ok (.iconst 0, 1) := by decide +kernel
theorem dX8_findQueue_61 : decode cX8_findQueue 61 = .ok (.istore 4, 2) := by decide +kernel
theorem dX8_findQueue_63 : decode cX8_findQueue 63 = .ok (.aload_n 0, 1) := by decide +kernel
theorem dX8_findQueue_64 : decode cX8_findQueue 64 = .ok (.getfield 49, 3) := by decide +kernel
theorem dX8_findQueue_67 : decode cX8_findQueue 67 = .ok (.iload_n 2, 1) := by decide +kernel
theorem dX8_findQueue_68 : decode cX8_findQueue 68 = .ok (.iload 4, 2) := by decide +kernel
theorem dX8_findQueue_70 : decode cX8_findQueue 70 = .ok (.aload_n 0, 1) := by decide +kernel
theorem dX8_findQueue_71 : decode cX8_findQueue 71 = .ok (.getfield 49, 3) := by decide +kernel
theorem dX8_findQueue_74 : decode cX8_findQueue 74 = .ok (.iload_n 2, 1) := by decide +kernel
theorem dX8_findQueue_75 : decode cX8_findQueue 75 = .ok (.iaload, 1) := by decide +kernel
theorem dX8_findQueue_76 : decode cX8_findQueue 76 = .ok (.if_icmp .le 8, 3) := by decide +kernel
theorem dX8_findQueue_79 : decode cX8_findQueue 79 = .ok (.iload 4, 2) := by decide +kernel
theorem dX8_findQueue_81 : decode cX8_findQueue 81 = .ok (.goto 9, 3) := by decide +kernel
theorem dX8_findQueue_84 : decode cX8_findQueue 84 = .ok (.aload_n 0, 1) := by decide +kernel
theorem dX8_findQueue_85 : decode cX8_findQueue 85 = .ok (.getfield 49, 3) := by decide +kernel
theorem dX8_findQueue_88 : decode cX8_findQueue 88 = .ok (.iload_n 2, 1) := by decide +kernel
theorem dX8_findQueue_89 : decode cX8_findQueue 89 = .ok (.iaload, 1) := by decide +kernel
theorem dX8_findQueue_90 : decode cX8_findQueue 90 = .ok (.iastore, 1) := by decide +kernel
theorem dX8_findQueue_91 : decode cX8_findQueue 91 = .ok (.iinc 3 1, 3) := by decide +kernel
theorem dX8_findQueue_94 : decode cX8_findQueue 94 = .ok (.goto (-73), 3) := by decide +kernel
theorem dX8_findQueue_97 : decode cX8_findQueue 97 = .ok (.iinc 2 1, 3) := by decide +kernel
theorem dX8_findQueue_100 : decode cX8_findQueue 100 = .ok (.goto (-98), 3) := by decide +kernel
theorem dX8_findQueue_103 : decode cX8_findQueue 103 = .ok (.return_, 1) := by decide +kernel
theorem dX8_queue_0 : decode cX8_queue 0 = .ok (.aload_n 0, 1) := by decide +kernel
theorem dX8_queue_1 : decode cX8_queue 1 = .ok (.iload_n 1, 1) := by decide +kernel
theorem dX8_queue_2 : decode cX8_queue 2 = .ok (.invokevirtual 120, 3) := by decide +kernel
theorem dX8_queue_5 : decode cX8_queue 5 = .ok (.ifCond .ne 7, 3) := by decide +kernel
theorem dX8_queue_8 : decode cX8_queue 8 = .ok (.iconst (-1), 1) := by decide +kernel
theorem dX8_queue_9 : decode cX8_queue 9 = .ok (.goto 14, 3) := by decide +kernel
theorem dX8_queue_12 : decode cX8_queue 12 = .ok (.iload_n 2, 1) := by decide +kernel
theorem dX8_queue_13 : decode cX8_queue 13 = .ok (.iconst (-1), 1) := by decide +kernel
theorem dX8_queue_14 : decode cX8_queue 14 = .ok (.if_icmp .ge 8, 3) := by decide +kernel
theorem dX8_queue_17 : decode cX8_queue 17 = .ok (.bipush (-4), 2) := by decide +kernel
theorem dX8_queue_19 : decode cX8_queue 19 = .ok (.goto 4, 3) := by decide +kernel
theorem dX8_queue_22 : decode cX8_queue 22 = .ok (.iconst 0, 1) := by decide +kernel
theorem dX8_queue_23 : decode cX8_queue 23 = .ok (.istore_n 3, 1) := by decide +kernel
theorem dX8_queue_24 : decode cX8_queue 24 = .ok (.iload_n 3, 1) := by decide +kernel
theorem dX8_queue_25 : decode cX8_queue 25 = .ok (.ifCond .eq 9, 3) := by decide +kernel
theorem dX8_queue_28 : decode cX8_queue 28 = .ok (.aload_n 0, 1) := by decide +kernel
theorem dX8_queue_29 : decode cX8_queue 29 = .ok (.iload_n 3, 1) := by decide +kernel
theorem dX8_queue_30 : decode cX8_queue 30 = .ok (.invokevirtual 77, 3) := by decide +kernel
theorem dX8_queue_33 : decode cX8_queue 33 = .ok (.ireturn, 1) := by decide +kernel
theorem dX8_queue_34 : decode cX8_queue 34 = .ok (.aload_n 0, 1) := by decide +kernel
theorem dX8_queue_35 : decode cX8_queue 35 = .ok (.iload_n 1, 1) := by decide +kernel
theorem dX8_queue_36 : decode cX8_queue 36 = .ok (.invokevirtual 255, 3) := by decide +kernel
theorem dX8_queue_39 : decode cX8_queue 39 = .ok (.iconst 1, 1) := by decide +kernel
theorem dX8_queue_40 : decode cX8_queue 40 = .ok (.aload_n 0, 1) := by decide +kernel
theorem dX8_queue_41 : decode cX8_queue 41 = .ok (.getfield 67, 3) := by decide +kernel
theorem dX8_queue_44 : decode cX8_queue 44 = .ok (.ishl, 1) := by decide +kernel
theorem dX8_queue_45 : decode cX8_queue 45 = .ok (.iconst 1, 1) := by decide +kernel
theorem dX8_queue_46 : decode cX8_queue 46 = .ok (.isub, 1) := by decide +kernel
theorem dX8_queue_47 : decode cX8_queue 47 = .ok (.istore 4, 2) := by decide +kernel
theorem dX8_queue_49 : decode cX8_queue 49 = .ok (.iload_n 2, 1) := by decide +kernel
theorem dX8_queue_50 : decode cX8_queue 50 = .ok (.ifCond .ge 11, 3) := by decide +kernel
theorem dX8_queue_53 : decode cX8_queue 53 = .ok (.aload_n 0, 1) := by decide +kernel
theorem dX8_queue_54 : decode cX8_queue 54 = .ok (.getfield 49, 3) := by decide +kernel
theorem dX8_queue_57 : decode cX8_queue 57 = .ok (.iload 4, 2) := by decide +kernel
theorem dX8_queue_59 : decode cX8_queue 59 = .ok (.iaload, 1) := by decide +kernel
theorem dX8_queue_60 : decode cX8_queue 60 = .ok (.ireturn, 1) := by decide +kernel
theorem dX8_queue_61 : decode cX8_queue 61 = .ok (.iload_n 2, 1) := by decide +kernel
theorem dX8_queue_62 : decode cX8_queue 62 = .ok (.aload_n 0, 1) := by decide +kernel
theorem dX8_queue_63 : decode cX8_queue 63 = .ok (.getfield 67, 3) := by decide +kernel
theorem dX8_queue_66 : decode cX8_queue 66 = .ok (.if_icmp .lt 6, 3) := by decide +kernel
theorem dX8_queue_69 : decode cX8_queue 69 = .ok (.bipush (-9), 2) := by decide +kernel
theorem dX8_queue_71 : decode cX8_queue 71 = .ok (.ireturn, 1) := by decide +kernel
theorem dX8_queue_72 : decode cX8_queue 72 = .ok (.iconst 0, 1) := by decide +kernel
theorem dX8_queue_73 : decode cX8_queue 73 = .ok (.istore 5, 2) := by decide +kernel
theorem dX8_queue_75 : decode cX8_queue 75 = .ok (.iconst 0, 1) := by decide +kernel
theorem dX8_queue_76 : decode cX8_queue 76 = .ok (.istore 6, 2) := by decide +kernel
theorem dX8_queue_78 : decode cX8_queue 78 = .ok (.iload 6, 2) := by decide +kernel
theorem dX8_queue_80 : decode cX8_queue 80 = .ok (.iload_n 2, 1) := by decide +kernel
theorem dX8_queue_81 : decode cX8_queue 81 = .ok (.if_icmp .gt 73, 3) := by decide +kernel
theorem dX8_queue_84 : decode cX8_queue 84 = .ok (.iconst 0, 1) := by decide +kernel
theorem dX8_queue_85 : decode cX8_queue 85 = .ok (.istore 5, 2) := by decide +kernel
theorem dX8_queue_87 : decode cX8_queue 87 = .ok (.iload 4, 2) := by decide +kernel
theorem dX8_queue_89 : decode cX8_queue 89 = .ok (.iload 5, 2) := by decide +kernel
theorem dX8_queue_91 : decode cX8_queue 91 = .ok (.invokestatic 173, 3) := by decide +kernel
theorem dX8_queue_94 : decode cX8_queue 94 = .ok (.ifCond .eq 37, 3) := by decide +kernel
theorem dX8_queue_97 : decode cX8_queue 97 = .ok (.aload_n 0, 1) := by decide +kernel
theorem dX8_queue_98 : decode cX8_queue 98 = .ok (.iload 5, 2) := by decide +kernel
theorem dX8_queue_100 : decode cX8_queue 100 = .ok (.iload_n 1, 1) := by decide +kernel
theorem dX8_queue_101 : decode cX8_queue 101 = .ok (.iload 4, 2) := by decide +kernel
theorem dX8_queue_103 : decode cX8_queue 103 = .ok (.invokevirtual 252, 3) := by decide +kernel
theorem dX8_queue_106 : decode cX8_queue 106 = .ok (.aload_n 0, 1) := by decide +kernel
theorem dX8_queue_107 : decode cX8_queue 107 = .ok (.getfield 49, 3) := by decide +kernel
theorem dX8_queue_110 : decode cX8_queue 110 = .ok (.iload 4, 2) := by decide +kernel
theorem dX8_queue_112 : decode cX8_queue 112 = .ok (.iconst 1, 1) := by decide +kernel
theorem dX8_queue_113 : decode cX8_queue 113 = .ok (.iload 5, 2) := by decide +kernel
theorem dX8_queue_115 : decode cX8_queue 115 = .ok (.ishl, 1) := by decide +kernel
theorem dX8_queue_116 : decode cX8_queue 116 = .ok (.iconst (-1), 1) := by decide +kernel
theorem dX8_queue_117 : decode cX8_queue 117 = .ok (.ixor, 1) := by decide +kernel
theorem dX8_queue_118 : decode cX8_queue 118 = .ok (.iand, 1) := by decide +kernel
theorem dX8_queue_119 : decode cX8_queue 119 = .ok (.iaload, 1) := by decide +kernel
theorem dX8_queue_120 : decode cX8_queue 120 = .ok (.iadd, 1) := by decide +kernel
theorem dX8_queue_121 : decode cX8_queue 121 = .ok (.aload_n 0, 1) := by decide +kernel
theorem dX8_queue_122 : decode cX8_queue 122 = .ok (.getfield 49, 3) := by decide +kernel
theorem dX8_queue_125 : decode cX8_queue 125 = .ok (.iload 4, 2) := by decide +kernel
theorem dX8_queue_127 : decode cX8_queue 127 = .ok (.iaload, 1) := by decide +kernel
theorem dX8_queue_128 : decode cX8_queue 128 = .ok (.if_icmp .eq 9, 3) := by decide +kernel
theorem dX8_queue_131 : decode cX8_queue 131 = .ok (.iinc 5 1, 3) := by decide +kernel
theorem dX8_queue_134 : decode cX8_queue 134 = .ok (.goto (-47), 3) := by decide +kernel
theorem dX8_queue_137 : decode cX8_queue 137 = .ok (.iload 4, 2) := by decide +kernel
theorem dX8_queue_139 : decode cX8_queue 139 = .ok (.iconst 1, 1) := by decide +kernel
theorem dX8_queue_140 : decode cX8_queue 140 = .ok (.iload 5, 2) := by decide +kernel
theorem dX8_queue_142 : decode cX8_queue 142 = .ok (.ishl, 1) := by decide +kernel
theorem dX8_queue_143 : decode cX8_queue 143 = .ok (.iconst (-1), 1) := by decide +kernel
theorem dX8_queue_144 : decode cX8_queue 144 = .ok (.ixor, 1) := by decide +kernel
theorem dX8_queue_145 : decode cX8_queue 145 = .ok (.iand, 1) := by decide +kernel
theorem dX8_queue_146 : decode cX8_queue 146 = .ok (.istore 4, 2) := by decide +kernel
theorem dX8_queue_148 : decode cX8_queue 148 = .ok (.iinc 6 1, 3) := by decide +kernel
theorem dX8_queue_151 : decode cX8_queue 151 = .ok (.goto (-73), 3) := by decide +kernel
theorem dX8_queue_154 : decode cX8_queue 154 = .ok (.iload 5, 2) := by decide +kernel
theorem dX8_queue_156 : decode cX8_queue 156 = .ok (.ireturn, 1) := by decide +kernel
theorem dX8_lessons_0 : decode cX8_lessons 0 = .ok (.aload_n 0, 1) := by decide +kernel
theorem dX8_lessons_1 : decode cX8_lessons 1 = .ok (.iload_n 1, 1) := by decide +kernel
theorem dX8_lessons_2 : decode cX8_lessons 2 = .ok (.iload_n 2, 1) := by decide +kernel
theorem dX8_lessons_3 : decode cX8_lessons 3 = .ok (.iload_n 3, 1) := by decide +kernel
theorem dX8_lessons_4 : decode cX8_lessons 4 = .ok (.invokevirtual 203, 3) := by decide +kernel
theorem dX8_lessons_7 : decode cX8_lessons 7 = .ok (.ifCond .ne 9, 3) := by decide +kernel
theorem dX8_lessons_10 : decode cX8_lessons 10 = .ok (.aload_n 0, 1) := by decide +kernel
theorem dX8_lessons_11 : decode cX8_lessons 11 = .ok (.iconst (-1), 1) := by decide +kernel
theorem dX8_lessons_12 : decode cX8_lessons 12 = .ok (.invokevirtual 77, 3) := by decide +kernel
theorem dX8_lessons_15 : decode cX8_lessons 15 = .ok (.ireturn, 1) := by decide +kernel
theorem dX8_lessons_16 : decode cX8_lessons 16 = .ok (.iconst 0, 1) := by decide +kernel
theorem dX8_lessons_17 : decode cX8_lessons 17 = .ok (.istore 4, 2) := by decide +kernel
theorem dX8_lessons_19 : decode cX8_lessons 19 = .ok (.iconst 0, 1) := by decide +kernel
theorem dX8_lessons_20 : decode cX8_lessons 20 = .ok (.istore 5, 2) := by decide +kernel
theorem dX8_lessons_22 : decode cX8_lessons 22 = .ok (.iconst 0, 1) := by decide +kernel
theorem dX8_lessons_23 : decode cX8_lessons 23 = .ok (.istore 6, 2) := by decide +kernel
theorem dX8_lessons_25 : decode cX8_lessons 25 = .ok (.iload 6, 2) := by decide +kernel
theorem dX8_lessons_27 : decode cX8_lessons 27 = .ok (.aload_n 0, 1) := by decide +kernel
theorem dX8_lessons_28 : decode cX8_lessons 28 = .ok (.getfield 61, 3) := by decide +kernel
theorem dX8_lessons_31 : decode cX8_lessons 31 = .ok (.if_icmp .ge 62, 3) := by decide +kernel
theorem dX8_lessons_34 : decode cX8_lessons 34 = .ok (.aload_n 0, 1) := by decide +kernel
theorem dX8_lessons_35 : decode cX8_lessons 35 = .ok (.getfield 22, 3) := by decide +kernel
theorem dX8_lessons_38 : decode cX8_lessons 38 = .ok (.iload_n 2, 1) := by decide +kernel
theorem dX8_lessons_39 : decode cX8_lessons 39 = .ok (.iaload, 1) := by decide +kernel
theorem dX8_lessons_40 : decode cX8_lessons 40 = .ok (.aload_n 0, 1) := by decide +kernel
theorem dX8_lessons_41 : decode cX8_lessons 41 = .ok (.getfield 28, 3) := by decide +kernel
theorem dX8_lessons_44 : decode cX8_lessons 44 = .ok (.iload_n 1, 1) := by decide +kernel
theorem dX8_lessons_45 : decode cX8_lessons 45 = .ok (.iaload, 1) := by decide +kernel
theorem dX8_lessons_46 : decode cX8_lessons 46 = .ok (.iconst (-1), 1) := by decide +kernel
theorem dX8_lessons_47 : decode cX8_lessons 47 = .ok (.ixor, 1) := by decide +kernel
theorem dX8_lessons_48 : decode cX8_lessons 48 = .ok (.iand, 1) := by decide +kernel
theorem dX8_lessons_49 : decode cX8_lessons 49 = .ok (.iload 6, 2) := by decide +kernel
theorem dX8_lessons_51 : decode cX8_lessons 51 = .ok (.invokestatic 173, 3) := by decide +kernel
theorem dX8_lessons_54 : decode cX8_lessons 54 = .ok (.ifCond .ne 6, 3) := by decide +kernel
theorem dX8_lessons_57 : decode cX8_lessons 57 = .ok (.goto 30, 3) := by decide +kernel
theorem dX8_lessons_60 : decode cX8_lessons 60 = .ok (.aload_n 0, 1) := by decide +kernel
theorem dX8_lessons_61 : decode cX8_lessons 61 = .ok (.iload_n 1, 1) := by decide +kernel
theorem dX8_lessons_62 : decode cX8_lessons 62 = .ok (.iload_n 2, 1) := by decide +kernel
theorem dX8_lessons_63 : decode cX8_lessons 63 = .ok (.iload_n 3, 1) := by decide +kernel
theorem dX8_lessons_64 : decode cX8_lessons 64 = .ok (.iload 4, 2) := by decide +kernel
theorem dX8_lessons_66 : decode cX8_lessons 66 = .ok (.invokevirtual 215, 3) := by decide +kernel
theorem dX8_lessons_69 : decode cX8_lessons 69 = .ok (.ifCond .eq 6, 3) := by decide +kernel
theorem dX8_lessons_72 : decode cX8_lessons 72 = .ok (.iload 5, 2) := by decide +kernel
theorem dX8_lessons_74 : decode cX8_lessons 74 = .ok (.ireturn, 1) := by decide +kernel
theorem dX8_lessons_75 : decode cX8_lessons 75 = .ok (.iload 4, 2) := by decide +kernel
theorem dX8_lessons_77 : decode cX8_lessons 77 = .ok (.iconst 1, 1) := by decide +kernel
theorem dX8_lessons_78 : decode cX8_lessons 78 = .ok (.iload 6, 2) := by decide +kernel
theorem dX8_lessons_80 : decode cX8_lessons 80 = .ok (.ishl, 1) := by decide +kernel
theorem dX8_lessons_81 : decode cX8_lessons 81 = .ok (.ior, 1) := by decide +kernel
theorem dX8_lessons_82 : decode cX8_lessons 82 = .ok (.istore 4, 2) := by decide +kernel
theorem dX8_lessons_84 : decode cX8_lessons 84 = .ok (.iinc 5 1, 3) := by decide +kernel
theorem dX8_lessons_87 : decode cX8_lessons 87 = .ok (.iinc 6 1, 3) := by decide +kernel
theorem dX8_lessons_90 : decode cX8_lessons 90 = .ok (.goto (-65), 3) := by decide +kernel
theorem dX8_lessons_93 : decode cX8_lessons 93 = .ok (.aload_n 0, 1) := by decide +kernel
theorem dX8_lessons_94 : decode cX8_lessons 94 = .ok (.iload_n 1, 1) := by decide +kernel
theorem dX8_lessons_95 : decode cX8_lessons 95 = .ok (.iload_n 2, 1) := by decide +kernel
theorem dX8_lessons_96 : decode cX8_lessons 96 = .ok (.iload_n 3, 1) := by decide +kernel
theorem dX8_lessons_97 : decode cX8_lessons 97 = .ok (.iload 4, 2) := by decide +kernel
theorem dX8_lessons_99 : decode cX8_lessons 99 = .ok (.invokevirtual 215, 3) := by decide +kernel
theorem dX8_lessons_102 : decode cX8_lessons 102 = .ok (.ifCond .eq 8, 3) := by decide +kernel
theorem dX8_lessons_105 : decode cX8_lessons 105 = .ok (.iload 5, 2) := by decide +kernel
theorem dX8_lessons_107 : decode cX8_lessons 107 = .ok (.goto 5, 3) := by decide +kernel
theorem dX8_lessons_110 : decode cX8_lessons 110 = .ok (.bipush (-9), 2) := by decide +kernel
theorem dX8_lessons_112 : decode cX8_lessons 112 = .ok (.ireturn, 1) := by decide +kernel
theorem dX8_passesBalls_0 : decode cX8_passesBalls 0 = .ok (.iconst 0, 1) := by decide +kernel
theorem dX8_passesBalls_1 : decode cX8_passesBalls 1 = .ok (.istore 4, 2) := by decide +kernel
theorem dX8_passesBalls_3 : decode cX8_passesBalls 3 = .ok (.iconst 0, 1) := by decide +kernel
theorem dX8_passesBalls_4 : decode cX8_passesBalls 4 = .ok (.istore 5, 2) := by decide +kernel
theorem dX8_passesBalls_6 : decode cX8_passesBalls 6 = .ok (.iload 5, 2) := by decide +kernel
theorem dX8_passesBalls_8 : decode cX8_passesBalls 8 = .ok (.aload_n 0, 1) := by decide +kernel
theorem dX8_passesBalls_9 : decode cX8_passesBalls 9 = .ok (.getfield 61, 3) := by decide +kernel
theorem dX8_passesBalls_12 : decode cX8_passesBalls 12 = .ok (.if_icmp .ge 69, 3) := by decide +kernel
theorem dX8_passesBalls_15 : decode cX8_passesBalls 15 = .ok (.iload_n 2, 1) := by decide +kernel
theorem dX8_passesBalls_16 : decode cX8_passesBalls 16 = .ok (.iload 5, 2) := by decide +kernel
theorem dX8_passesBalls_18 : decode cX8_passesBalls 18 = .ok (.invokestatic 173, 3) := by decide +kernel
theorem dX8_passesBalls_21 : decode cX8_passesBalls 21 = .ok (.ifCond .ne 6, 3) := by decide +kernel
theorem dX8_passesBalls_24 : decode cX8_passesBalls 24 = .ok (.goto 51, 3) := by decide +kernel
theorem dX8_passesBalls_27 : decode cX8_passesBalls 27 = .ok (.aload_n 0, 1) := by decide +kernel
theorem dX8_passesBalls_28 : decode cX8_passesBalls 28 = .ok (.iload_n 1, 1) := by decide +kernel
theorem dX8_passesBalls_29 : decode cX8_passesBalls 29 = .ok (.iload 5, 2) := by decide +kernel
theorem dX8_passesBalls_31 : decode cX8_passesBalls 31 = .ok (.aload_n 0, 1) := by decide +kernel
theorem dX8_passesBalls_32 : decode cX8_passesBalls 32 = .ok (.getfield 52, 3) := by decide +kernel
theorem dX8_passesBalls_35 : decode cX8_passesBalls 35 = .ok (.invokevirtual 176, 3) := by decide +kernel
theorem dX8_passesBalls_38 : decode cX8_passesBalls 38 = .ok (.iload_n 3, 1) := by decide +kernel
theorem dX8_passesBalls_39 : decode cX8_passesBalls 39 = .ok (.iload 5, 2) := by decide +kernel
theorem dX8_passesBalls_41 : decode cX8_passesBalls 41 = .ok (.invokestatic 173, 3) := by decide +kernel
theorem dX8_passesBalls_44 : decode cX8_passesBalls 44 = .ok (.ifCond .eq 12, 3) := by decide +kernel
theorem dX8_passesBalls_47 : decode cX8_passesBalls 47 = .ok (.aload_n 0, 1) := by decide +kernel
theorem dX8_passesBalls_48 : decode cX8_passesBalls 48 = .ok (.iload 5, 2) := by decide +kernel
theorem dX8_passesBalls_50 : decode cX8_passesBalls 50 = .ok (.invokevirtual 188, 3) := by decide +kernel
theorem dX8_passesBalls_53 : decode cX8_passesBalls 53 = .ok (.goto 4, 3) := by decide +kernel
theorem dX8_passesBalls_56 : decode cX8_passesBalls 56 = .ok (.iconst 0, 1) := by decide +kernel
theorem dX8_passesBalls_57 : decode cX8_passesBalls 57 = .ok (.iadd, 1) := by decide +kernel
theorem dX8_passesBalls_58 : decode cX8_passesBalls 58 = .ok (.istore 6, 2) := by decide +kernel
theorem dX8_passesBalls_60 : decode cX8_passesBalls 60 = .ok (.iload 6, 2) := by decide +kernel
theorem dX8_passesBalls_62 : decode cX8_passesBalls 62 = .ok (.iconst 5, 1) := by decide +kernel
theorem dX8_passesBalls_63 : decode cX8_passesBalls 63 = .ok (.if_icmp .le 5, 3) := by decide +kernel
theorem dX8_passesBalls_66 : decode cX8_passesBalls 66 = .ok (.iconst 0, 1) := by decide +kernel
theorem dX8_passesBalls_67 : decode cX8_passesBalls 67 = .ok (.ireturn, 1) := by decide +kernel
theorem dX8_passesBalls_68 : decode cX8_passesBalls 68 = .ok (.iload 4, 2) := by decide +kernel
theorem dX8_passesBalls_70 : decode cX8_passesBalls 70 = .ok (.iload 6, 2) := by decide +kernel
theorem dX8_passesBalls_72 : decode cX8_passesBalls 72 = .ok (.iadd, 1) := by decide +kernel
theorem dX8_passesBalls_73 : decode cX8_passesBalls 73 = .ok (.istore 4, 2) := by decide +kernel
theorem dX8_passesBalls_75 : decode cX8_passesBalls 75 = .ok (.iinc 5 1, 3) := by decide +kernel
theorem dX8_passesBalls_78 : decode cX8_passesBalls 78 = .ok (.goto (-72), 3) := by decide +kernel
theorem dX8_passesBalls_81 : decode cX8_passesBalls 81 = .ok (.iload 4, 2) := by decide +kernel
theorem dX8_passesBalls_83 : decode cX8_passesBalls 83 = .ok (.aload_n 0, 1) := by decide +kernel
theorem dX8_passesBalls_84 : decode cX8_passesBalls 84 = .ok (.getfield 56, 3) := by decide +kernel
theorem dX8_passesBalls_87 : decode cX8_passesBalls 87 = .ok (.if_icmp .gt 7, 3) := by decide +kernel
theorem dX8_passesBalls_90 : decode cX8_passesBalls 90 = .ok (.iconst 1, 1) := by decide +kernel
theorem dX8_passesBalls_91 : decode cX8_passesBalls 91 = .ok (.goto 4, 3) := by decide +kernel
theorem dX8_passesBalls_94 : decode cX8_passesBalls 94 = .ok (.iconst 0, 1) := by decide +kernel
theorem dX8_passesBalls_95 : decode cX8_passesBalls 95 = .ok (.ireturn, 1) := by decide +kernel
theorem dX8_ball_0 : decode cX8_ball 0 = .ok (.aload_n 0, 1) := by decide +kernel
theorem dX8_ball_1 : decode cX8_ball 1 = .ok (.iload_n 1, 1) := by decide +kernel
theorem dX8_ball_2 : decode cX8_ball 2 = .ok (.invokevirtual 114, 3) := by decide +kernel
theorem dX8_ball_5 : decode cX8_ball 5 = .ok (.ifCond .eq 11, 3) := by decide +kernel
theorem dX8_ball_8 : decode cX8_ball 8 = .ok (.aload_n 0, 1) := by decide +kernel
theorem dX8_ball_9 : decode cX8_ball 9 = .ok (.iload_n 2, 1) := by decide +kernel
theorem dX8_ball_10 : decode cX8_ball 10 = .ok (.invokevirtual 120, 3) := by decide +kernel
theorem dX8_ball_13 : decode cX8_ball 13 = .ok (.ifCond .ne 7, 3) := by decide +kernel
theorem dX8_ball_16 : decode cX8_ball 16 = .ok (.iconst (-1), 1) := by decide +kernel
theorem dX8_ball_17 : decode cX8_ball 17 = .ok (.goto 10, 3) := by decide +kernel
theorem dX8_ball_20 : decode cX8_ball 20 = .ok (.iload_n 3, 1) := by decide +kernel
theorem dX8_ball_21 : decode cX8_ball 21 = .ok (.iconst 2, 1) := by decide +kernel
theorem dX8_ball_22 : decode cX8_ball 22 = .ok (.bipush 20, 2) := by decide +kernel
theorem dX8_ball_24 : decode cX8_ball 24 = .ok (.invokestatic 70, 3) := by decide +kernel
theorem dX8_ball_27 : decode cX8_ball 27 = .ok (.istore 5, 2) := by decide +kernel
theorem dX8_ball_29 : decode cX8_ball 29 = .ok (.iload 5, 2) := by decide +kernel
theorem dX8_ball_31 : decode cX8_ball 31 = .ok (.ifCond .ne 17, 3) := by decide +kernel
theorem dX8_ball_34 : decode cX8_ball 34 = .ok (.iload 4, 2) := by decide +kernel
theorem dX8_ball_36 : decode cX8_ball 36 = .ok (.iconst 0, 1) := by decide +kernel
theorem dX8_ball_37 : decode cX8_ball 37 = .ok (.iconst 1, 1) := by decide +kernel
theorem dX8_ball_38 : decode cX8_ball 38 = .ok (.invokestatic 88, 3) := by decide +kernel
theorem dX8_ball_41 : decode cX8_ball 41 = .ok (.ifCond .ne 7, 3) := by decide +kernel
theorem dX8_ball_44 : decode cX8_ball 44 = .ok (.bipush (-2), 2) := by decide +kernel
theorem dX8_ball_46 : decode cX8_ball 46 = .ok (.istore 5, 2) := by decide +kernel
theorem dX8_ball_48 : decode cX8_ball 48 = .ok (.iload 5, 2) := by decide +kernel
theorem dX8_ball_50 : decode cX8_ball 50 = .ok (.ifCond .eq 10, 3) := by decide +kernel
theorem dX8_ball_53 : decode cX8_ball 53 = .ok (.aload_n 0, 1) := by decide +kernel
theorem dX8_ball_54 : decode cX8_ball 54 = .ok (.iload 5, 2) := by decide +kernel
theorem dX8_ball_56 : decode cX8_ball 56 = .ok (.invokevirtual 223, 3) := by decide +kernel
theorem dX8_ball_59 : decode cX8_ball 59 = .ok (.lreturn, 1) := by decide +kernel
theorem dX8_ball_60 : decode cX8_ball 60 = .ok (.aload_n 0, 1) := by decide +kernel
theorem dX8_ball_61 : decode cX8_ball 61 = .ok (.getfield 22, 3) := by decide +kernel
theorem dX8_ball_64 : decode cX8_ball 64 = .ok (.iload_n 2, 1) := by decide +kernel
theorem dX8_ball_65 : decode cX8_ball 65 = .ok (.iaload, 1) := by decide +kernel
theorem dX8_ball_66 : decode cX8_ball 66 = .ok (.istore 6, 2) := by decide +kernel
theorem dX8_ball_68 : decode cX8_ball 68 = .ok (.lconst 0, 1) := by decide +kernel
theorem dX8_ball_69 : decode cX8_ball 69 = .ok (.lstore 7, 2) := by decide +kernel
theorem dX8_ball_71 : decode cX8_ball 71 = .ok (.lconst 1, 1) := by decide +kernel
theorem dX8_ball_72 : decode cX8_ball 72 = .ok (.lstore 9, 2) := by decide +kernel
theorem dX8_ball_74 : decode cX8_ball 74 = .ok (.iconst 0, 1) := by decide +kernel
theorem dX8_ball_75 : decode cX8_ball 75 = .ok (.istore 11, 2) := by decide +kernel
theorem dX8_ball_77 : decode cX8_ball 77 = .ok (.iload 11, 2) := by decide +kernel
theorem dX8_ball_79 : decode cX8_ball 79 = .ok (.iload 6, 2) := by decide +kernel
theorem dX8_ball_81 : decode cX8_ball 81 = .ok (.invokestatic 212, 3) := by decide +kernel
theorem dX8_ball_84 : decode cX8_ball 84 = .ok (.if_icmp .ge 16, 3) := by decide +kernel
theorem dX8_ball_87 : decode cX8_ball 87 = .ok (.lload 9, 2) := by decide +kernel
theorem dX8_ball_89 : decode cX8_ball 89 = .ok (.iload_n 3, 1) := by decide +kernel
theorem dX8_ball_90 : decode cX8_ball 90 = .ok (.i2l, 1) := by decide +kernel
theorem dX8_ball_91 : decode cX8_ball 91 = .ok (.lmul, 1) := by decide +kernel
theorem dX8_ball_92 : decode cX8_ball 92 = .ok (.lstore 9, 2) := by decide +kernel
theorem dX8_ball_94 : decode cX8_ball 94 = .ok (.iinc 11 1, 3) := by decide +kernel
theorem dX8_ball_97 : decode cX8_ball 97 = .ok (.goto (-20), 3) := by decide +kernel
theorem dX8_ball_100 : decode cX8_ball 100 = .ok (.iconst 0, 1) := by decide +kernel
theorem dX8_ball_101 : decode cX8_ball 101 = .ok (.istore 11, 2) := by decide +kernel
theorem dX8_ball_103 : decode cX8_ball 103 = .ok (.iload 11, 2) := by decide +kernel
theorem dX8_ball_105 : decode cX8_ball 105 = .ok (.iconst 1, 1) := by decide +kernel
theorem dX8_ball_106 : decode cX8_ball 106 = .ok (.aload_n 0, 1) := by decide +kernel
theorem dX8_ball_107 : decode cX8_ball 107 = .ok (.getfield 61, 3) := by decide +kernel
theorem dX8_ball_110 : decode cX8_ball 110 = .ok (.ishl, 1) := by decide +kernel
theorem dX8_ball_111 : decode cX8_ball 111 = .ok (.if_icmp .ge 76, 3) := by decide +kernel
theorem dX8_ball_114 : decode cX8_ball 114 = .ok (.iload 11, 2) := by decide +kernel
theorem dX8_ball_116 : decode cX8_ball 116 = .ok (.iload 6, 2) := by decide +kernel
theorem dX8_ball_118 : decode cX8_ball 118 = .ok (.iconst (-1), 1) := by decide +kernel
theorem dX8_ball_119 : decode cX8_ball 119 = .ok (.ixor, 1) := by decide +kernel
theorem dX8_ball_120 : decode cX8_ball 120 = .ok (.iand, 1) := by decide +kernel
theorem dX8_ball_121 : decode cX8_ball 121 = .ok (.ifCond .ne 60, 3) := by decide +kernel
theorem dX8_ball_124 : decode cX8_ball 124 = .ok (.aload_n 0, 1) := by decide +kernel
theorem dX8_ball_125 : decode cX8_ball 125 = .ok (.iload_n 1, 1) := by decide +kernel
theorem dX8_ball_126 : decode cX8_ball 126 = .ok (.iload 6, 2) := by decide +kernel
theorem dX8_ball_128 : decode cX8_ball 128 = .ok (.iload 11, 2) := by decide +kernel
theorem dX8_ball_130 : decode cX8_ball 130 = .ok (.invokevirtual 258, 3) := by decide +kernel
theorem dX8_ball_133 : decode cX8_ball 133 = .ok (.ifCond .ne 6, 3) := by decide +kernel
theorem dX8_ball_136 : decode cX8_ball 136 = .ok (.goto 45, 3) := by decide +kernel
theorem dX8_ball_139 : decode cX8_ball 139 = .ok (.lconst 1, 1) := by decide +kernel
theorem dX8_ball_140 : decode cX8_ball 140 = .ok (.lstore 12, 2) := by decide +kernel
theorem dX8_ball_142 : decode cX8_ball 142 = .ok (.iload 11, 2) := by decide +kernel
theorem dX8_ball_144 : decode cX8_ball 144 = .ok (.invokestatic 212, 3) := by decide +kernel
theorem dX8_ball_147 : decode cX8_ball 147 = .ok (.istore 14, 2) := by decide +kernel
theorem dX8_ball_149 : decode cX8_ball 149 = .ok (.iload 14, 2) := by decide +kernel
theorem dX8_ball_151 : decode cX8_ball 151 = .ok (.iload 6, 2) := by decide +kernel
theorem dX8_ball_153 : decode cX8_ball 153 = .ok (.invokestatic 212, 3) := by decide +kernel
theorem dX8_ball_156 : decode cX8_ball 156 = .ok (.if_icmp .ge 18, 3) := by decide +kernel
theorem dX8_ball_159 : decode cX8_ball 159 = .ok (.lload 12, 2) := by decide +kernel
theorem dX8_ball_161 : decode cX8_ball 161 = .ok (.iload_n 3, 1) := by decide +kernel
theorem dX8_ball_162 : decode cX8_ball 162 = .ok (.iconst 1, 1) := by decide +kernel
theorem dX8_ball_163 : decode cX8_ball 163 = .ok (.isub, 1) := by decide +kernel
theorem dX8_ball_164 : decode cX8_ball 164 = .ok (.i2l, 1) := by decide +kernel
theorem dX8_ball_165 : decode cX8_ball 165 = .ok (.lmul, 1) := by decide +kernel
theorem dX8_ball_166 : decode cX8_ball 166 = .ok (.lstore 12, 2) := by decide +kernel
theorem dX8_ball_168 : decode cX8_ball 168 = .ok (.iinc 14 1, 3) := by decide +kernel
theorem dX8_ball_171 : decode cX8_ball 171 = .ok (.goto (-22), 3) := by decide +kernel
theorem dX8_ball_174 : decode cX8_ball 174 = .ok (.lload 7, 2) := by decide +kernel
theorem dX8_ball_176 : decode cX8_ball 176 = .ok (.lload 12, 2) := by decide +kernel
theorem dX8_ball_178 : decode cX8_ball 178 = .ok (.ladd, 1) := by decide +kernel
theorem dX8_ball_179 : decode cX8_ball 179 = .ok (.lstore 7, 2) := by decide +kernel
theorem dX8_ball_181 : decode cX8_ball 181 = .ok (.iinc 11 1, 3) := by decide +kernel
theorem dX8_ball_184 : decode cX8_ball 184 = .ok (.goto (-81), 3) := by decide +kernel
theorem dX8_ball_187 : decode cX8_ball 187 = .ok (.lload 7, 2) := by decide +kernel
theorem dX8_ball_189 : decode cX8_ball 189 = .ok (.lload 9, 2) := by decide +kernel
theorem dX8_ball_191 : decode cX8_ball 191 = .ok (.iload 4, 2) := by decide +kernel
theorem dX8_ball_193 : decode cX8_ball 193 = .ok (.invokestatic 227, 3) := by decide +kernel
theorem dX8_ball_196 : decode cX8_ball 196 = .ok (.lreturn, 1) := by decide +kernel
theorem dX8_waysWith_0 : decode cX8_waysWith 0 = .ok (.iconst 0, 1) := by decide +kernel
theorem dX8_waysWith_1 : decode cX8_waysWith 1 = .ok (.istore_n 2, 1) := by decide +kernel
theorem dX8_waysWith_2 : decode cX8_waysWith 2 = .ok (.iconst 0, 1) := by decide +kernel
theorem dX8_waysWith_3 : decode cX8_waysWith 3 = .ok (.istore_n 3, 1) := by decide +kernel
theorem dX8_waysWith_4 : decode cX8_waysWith 4 = .ok (.iload_n 3, 1) := by decide +kernel
theorem dX8_waysWith_5 : decode cX8_waysWith 5 = .ok (.aload_n 0, 1) := by decide +kernel
theorem dX8_waysWith_6 : decode cX8_waysWith 6 = .ok (.getfield 64, 3) := by decide +kernel
theorem dX8_waysWith_9 : decode cX8_waysWith 9 = .ok (.if_icmp .ge 22, 3) := by decide +kernel
theorem dX8_waysWith_12 : decode cX8_waysWith 12 = .ok (.iload_n 2, 1) := by decide +kernel
theorem dX8_waysWith_13 : decode cX8_waysWith 13 = .ok (.aload_n 0, 1) := by decide +kernel
theorem dX8_waysWith_14 : decode cX8_waysWith 14 = .ok (.getfield 22, 3) := by decide +kernel
theorem dX8_waysWith_17 : decode cX8_waysWith 17 = .ok (.iload_n 3, 1) := by decide +kernel
theorem dX8_waysWith_18 : decode cX8_waysWith 18 = .ok (.iaload, 1) := by decide +kernel
theorem dX8_waysWith_19 : decode cX8_waysWith 19 = .ok (.iload_n 1, 1) := by decide +kernel
theorem dX8_waysWith_20 : decode cX8_waysWith 20 = .ok (.ishr, 1) := by decide +kernel
theorem dX8_waysWith_21 : decode cX8_waysWith 21 = .ok (.iconst 1, 1) := by decide +kernel
theorem dX8_waysWith_22 : decode cX8_waysWith 22 = .ok (.iand, 1) := by decide +kernel
theorem dX8_waysWith_23 : decode cX8_waysWith 23 = .ok (.iadd, 1) := by decide +kernel
theorem dX8_waysWith_24 : decode cX8_waysWith 24 = .ok (.istore_n 2, 1) := by decide +kernel
theorem dX8_waysWith_25 : decode cX8_waysWith 25 = .ok (.iinc 3 1, 3) := by decide +kernel
theorem dX8_waysWith_28 : decode cX8_waysWith 28 = .ok (.goto (-24), 3) := by decide +kernel
theorem dX8_waysWith_31 : decode cX8_waysWith 31 = .ok (.iload_n 2, 1) := by decide +kernel
theorem dX8_waysWith_32 : decode cX8_waysWith 32 = .ok (.ireturn, 1) := by decide +kernel
theorem dX8_crowded_0 : decode cX8_crowded 0 = .ok (.iload_n 1, 1) := by decide +kernel
theorem dX8_crowded_1 : decode cX8_crowded 1 = .ok (.iconst 0, 1) := by decide +kernel
theorem dX8_crowded_2 : decode cX8_crowded 2 = .ok (.iconst 2, 1) := by decide +kernel
theorem dX8_crowded_3 : decode cX8_crowded 3 = .ok (.invokestatic 88, 3) := by decide +kernel
theorem dX8_crowded_6 : decode cX8_crowded 6 = .ok (.ifCond .ne 10, 3) := by decide +kernel
theorem dX8_crowded_9 : decode cX8_crowded 9 = .ok (.aload_n 0, 1) := by decide +kernel
theorem dX8_crowded_10 : decode cX8_crowded 10 = .ok (.bipush (-2), 2) := by decide +kernel
theorem dX8_crowded_12 : decode cX8_crowded 12 = .ok (.invokevirtual 77, 3) := by decide +kernel
theorem dX8_crowded_15 : decode cX8_crowded 15 = .ok (.ireturn, 1) := by decide +kernel
theorem dX8_crowded_16 : decode cX8_crowded 16 = .ok (.bipush (-9), 2) := by decide +kernel
theorem dX8_crowded_18 : decode cX8_crowded 18 = .ok (.istore_n 2, 1) := by decide +kernel
theorem dX8_crowded_19 : decode cX8_crowded 19 = .ok (.iconst 0, 1) := by decide +kernel
theorem dX8_crowded_20 : decode cX8_crowded 20 = .ok (.istore_n 3, 1) := by decide +kernel
theorem dX8_crowded_21 : decode cX8_crowded 21 = .ok (.iconst 0, 1) := by decide +kernel
theorem dX8_crowded_22 : decode cX8_crowded 22 = .ok (.istore 4, 2) := by decide +kernel
theorem dX8_crowded_24 : decode cX8_crowded 24 = .ok (.iload 4, 2) := by decide +kernel
theorem dX8_crowded_26 : decode cX8_crowded 26 = .ok (.aload_n 0, 1) := by decide +kernel
theorem dX8_crowded_27 : decode cX8_crowded 27 = .ok (.getfield 61, 3) := by decide +kernel
theorem dX8_crowded_30 : decode cX8_crowded 30 = .ok (.if_icmp .ge 54, 3) := by decide +kernel
theorem dX8_crowded_33 : decode cX8_crowded 33 = .ok (.iload_n 2, 1) := by decide +kernel
theorem dX8_crowded_34 : decode cX8_crowded 34 = .ok (.ifCond .lt 17, 3) := by decide +kernel
theorem dX8_crowded_37 : decode cX8_crowded 37 = .ok (.aload_n 0, 1) := by decide +kernel
theorem dX8_crowded_38 : decode cX8_crowded 38 = .ok (.iload 4, 2) := by decide +kernel
theorem dX8_crowded_40 : decode cX8_crowded 40 = .ok (.invokevirtual 261, 3) := by decide +kernel
theorem dX8_crowded_43 : decode cX8_crowded 43 = .ok (.aload_n 0, 1) := by decide +kernel
theorem dX8_crowded_44 : decode cX8_crowded 44 = .ok (.iload_n 2, 1) := by decide +kernel
theorem dX8_crowded_45 : decode cX8_crowded 45 = .ok (.invokevirtual 261, 3) := by decide +kernel
theorem dX8_crowded_48 : decode cX8_crowded 48 = .ok (.if_icmp .le 8, 3) := by decide +kernel
theorem dX8_crowded_51 : decode cX8_crowded 51 = .ok (.iload 4, 2) := by decide +kernel
theorem dX8_crowded_53 : decode cX8_crowded 53 = .ok (.goto 4, 3) := by decide +kernel
theorem dX8_crowded_56 : decode cX8_crowded 56 = .ok (.iload_n 2, 1) := by decide +kernel
theorem dX8_crowded_57 : decode cX8_crowded 57 = .ok (.istore_n 2, 1) := by decide +kernel
theorem dX8_crowded_58 : decode cX8_crowded 58 = .ok (.iload_n 3, 1) := by decide +kernel
theorem dX8_crowded_59 : decode cX8_crowded 59 = .ok (.aload_n 0, 1) := by decide +kernel
theorem dX8_crowded_60 : decode cX8_crowded 60 = .ok (.iload 4, 2) := by decide +kernel
theorem dX8_crowded_62 : decode cX8_crowded 62 = .ok (.invokevirtual 261, 3) := by decide +kernel
theorem dX8_crowded_65 : decode cX8_crowded 65 = .ok (.ifCond .ne 10, 3) := by decide +kernel
theorem dX8_crowded_68 : decode cX8_crowded 68 = .ok (.iconst 1, 1) := by decide +kernel
theorem dX8_crowded_69 : decode cX8_crowded 69 = .ok (.iload 4, 2) := by decide +kernel
theorem dX8_crowded_71 : decode cX8_crowded 71 = .ok (.ishl, 1) := by decide +kernel
theorem dX8_crowded_72 : decode cX8_crowded 72 = .ok (.goto 4, 3) := by decide +kernel
theorem dX8_crowded_75 : decode cX8_crowded 75 = .ok (.iconst 0, 1) := by decide +kernel
theorem dX8_crowded_76 : decode cX8_crowded 76 = .ok (.ior, 1) := by decide +kernel
theorem dX8_crowded_77 : decode cX8_crowded 77 = .ok (.istore_n 3, 1) := by decide +kernel
theorem dX8_crowded_78 : decode cX8_crowded 78 = .ok (.iinc 4 1, 3) := by decide +kernel
theorem dX8_crowded_81 : decode cX8_crowded 81 = .ok (.goto (-57), 3) := by decide +kernel
theorem dX8_crowded_84 : decode cX8_crowded 84 = .ok (.iload_n 1, 1) := by decide +kernel
theorem dX8_crowded_85 : decode cX8_crowded 85 = .ok (.iconst 2, 1) := by decide +kernel
theorem dX8_crowded_86 : decode cX8_crowded 86 = .ok (.if_icmp .ne 7, 3) := by decide +kernel
theorem dX8_crowded_89 : decode cX8_crowded 89 = .ok (.iload_n 3, 1) := by decide +kernel
theorem dX8_crowded_90 : decode cX8_crowded 90 = .ok (.goto 24, 3) := by decide +kernel
theorem dX8_crowded_93 : decode cX8_crowded 93 = .ok (.iload_n 1, 1) := by decide +kernel
theorem dX8_crowded_94 : decode cX8_crowded 94 = .ok (.ifCond .ne 7, 3) := by decide +kernel
theorem dX8_crowded_97 : decode cX8_crowded 97 = .ok (.iload_n 2, 1) := by decide +kernel
theorem dX8_crowded_98 : decode cX8_crowded 98 = .ok (.goto 16, 3) := by decide +kernel
theorem dX8_crowded_101 : decode cX8_crowded 101 = .ok (.iload_n 2, 1) := by decide +kernel
theorem dX8_crowded_102 : decode cX8_crowded 102 = .ok (.ifCond .ge 7, 3) := by decide +kernel
theorem dX8_crowded_105 : decode cX8_crowded 105 = .ok (.iconst 0, 1) := by decide +kernel
theorem dX8_crowded_106 : decode cX8_crowded 106 = .ok (.goto 8, 3) := by decide +kernel
theorem dX8_crowded_109 : decode cX8_crowded 109 = .ok (.aload_n 0, 1) := by decide +kernel
theorem dX8_crowded_110 : decode cX8_crowded 110 = .ok (.iload_n 2, 1) := by decide +kernel
theorem dX8_crowded_111 : decode cX8_crowded 111 = .ok (.invokevirtual 261, 3) := by decide +kernel
theorem dX8_crowded_114 : decode cX8_crowded 114 = .ok (.ireturn, 1) := by decide +kernel
theorem dX8_aheadOf_0 : decode cX8_aheadOf 0 = .ok (.iconst 0, 1) := by decide +kernel
theorem dX8_aheadOf_1 : decode cX8_aheadOf 1 = .ok (.istore_n 3, 1) := by decide +kernel
theorem dX8_aheadOf_2 : decode cX8_aheadOf 2 = .ok (.iconst 0, 1) := by decide +kernel
theorem dX8_aheadOf_3 : decode cX8_aheadOf 3 = .ok (.istore 4, 2) := by decide +kernel
theorem dX8_aheadOf_5 : decode cX8_aheadOf 5 = .ok (.iload 4, 2) := by decide +kernel
theorem dX8_aheadOf_7 : decode cX8_aheadOf 7 = .ok (.aload_n 0, 1) := by decide +kernel
theorem dX8_aheadOf_8 : decode cX8_aheadOf 8 = .ok (.getfield 67, 3) := by decide +kernel
theorem dX8_aheadOf_11 : decode cX8_aheadOf 11 = .ok (.if_icmp .ge 67, 3) := by decide +kernel
theorem dX8_aheadOf_14 : decode cX8_aheadOf 14 = .ok (.aload_n 0, 1) := by decide +kernel
theorem dX8_aheadOf_15 : decode cX8_aheadOf 15 = .ok (.iload_n 1, 1) := by decide +kernel
theorem dX8_aheadOf_16 : decode cX8_aheadOf 16 = .ok (.aload_n 0, 1) := by decide +kernel
theorem dX8_aheadOf_17 : decode cX8_aheadOf 17 = .ok (.getfield 22, 3) := by decide +kernel
theorem dX8_aheadOf_20 : decode cX8_aheadOf 20 = .ok (.iload_n 2, 1) := by decide +kernel
theorem dX8_aheadOf_21 : decode cX8_aheadOf 21 = .ok (.iaload, 1) := by decide +kernel
theorem dX8_aheadOf_22 : decode cX8_aheadOf 22 = .ok (.aload_n 0, 1) := by decide +kernel
theorem dX8_aheadOf_23 : decode cX8_aheadOf 23 = .ok (.getfield 52, 3) := by decide +kernel
theorem dX8_aheadOf_26 : decode cX8_aheadOf 26 = .ok (.invokevirtual 179, 3) := by decide +kernel
theorem dX8_aheadOf_29 : decode cX8_aheadOf 29 = .ok (.aload_n 0, 1) := by decide +kernel
theorem dX8_aheadOf_30 : decode cX8_aheadOf 30 = .ok (.iload 4, 2) := by decide +kernel
theorem dX8_aheadOf_32 : decode cX8_aheadOf 32 = .ok (.aload_n 0, 1) := by decide +kernel
theorem dX8_aheadOf_33 : decode cX8_aheadOf 33 = .ok (.getfield 22, 3) := by decide +kernel
theorem dX8_aheadOf_36 : decode cX8_aheadOf 36 = .ok (.iload_n 2, 1) := by decide +kernel
theorem dX8_aheadOf_37 : decode cX8_aheadOf 37 = .ok (.iaload, 1) := by decide +kernel
theorem dX8_aheadOf_38 : decode cX8_aheadOf 38 = .ok (.aload_n 0, 1) := by decide +kernel
theorem dX8_aheadOf_39 : decode cX8_aheadOf 39 = .ok (.getfield 52, 3) := by decide +kernel
theorem dX8_aheadOf_42 : decode cX8_aheadOf 42 = .ok (.invokevirtual 179, 3) := by decide +kernel
theorem dX8_aheadOf_45 : decode cX8_aheadOf 45 = .ok (.isub, 1) := by decide +kernel
theorem dX8_aheadOf_46 : decode cX8_aheadOf 46 = .ok (.istore 5, 2) := by decide +kernel
theorem dX8_aheadOf_48 : decode cX8_aheadOf 48 = .ok (.iload_n 3, 1) := by decide +kernel
theorem dX8_aheadOf_49 : decode cX8_aheadOf 49 = .ok (.iload 5, 2) := by decide +kernel
theorem dX8_aheadOf_51 : decode cX8_aheadOf 51 = .ok (.ifCond .gt 14, 3) := by decide +kernel
theorem dX8_aheadOf_54 : decode cX8_aheadOf 54 = .ok (.iload 5, 2) := by decide +kernel
theorem dX8_aheadOf_56 : decode cX8_aheadOf 56 = .ok (.ifCond .ne 13, 3) := by decide +kernel
theorem dX8_aheadOf_59 : decode cX8_aheadOf 59 = .ok (.iload 4, 2) := by decide +kernel
theorem dX8_aheadOf_61 : decode cX8_aheadOf 61 = .ok (.iload_n 1, 1) := by decide +kernel
theorem dX8_aheadOf_62 : decode cX8_aheadOf 62 = .ok (.if_icmp .ge 7, 3) := by decide +kernel
theorem dX8_aheadOf_65 : decode cX8_aheadOf 65 = .ok (.iconst 1, 1) := by decide +kernel
theorem dX8_aheadOf_66 : decode cX8_aheadOf 66 = .ok (.goto 4, 3) := by decide +kernel
theorem dX8_aheadOf_69 : decode cX8_aheadOf 69 = .ok (.iconst 0, 1) := by decide +kernel
theorem dX8_aheadOf_70 : decode cX8_aheadOf 70 = .ok (.iadd, 1) := by decide +kernel
theorem dX8_aheadOf_71 : decode cX8_aheadOf 71 = .ok (.istore_n 3, 1) := by decide +kernel
theorem dX8_aheadOf_72 : decode cX8_aheadOf 72 = .ok (.iinc 4 1, 3) := by decide +kernel
theorem dX8_aheadOf_75 : decode cX8_aheadOf 75 = .ok (.goto (-70), 3) := by decide +kernel
theorem dX8_aheadOf_78 : decode cX8_aheadOf 78 = .ok (.iload_n 3, 1) := by decide +kernel
theorem dX8_aheadOf_79 : decode cX8_aheadOf 79 = .ok (.ireturn, 1) := by decide +kernel
theorem dX8_rank_0 : decode cX8_rank 0 = .ok (.aload_n 0, 1) := by decide +kernel
theorem dX8_rank_1 : decode cX8_rank 1 = .ok (.iload_n 1, 1) := by decide +kernel
theorem dX8_rank_2 : decode cX8_rank 2 = .ok (.invokevirtual 120, 3) := by decide +kernel
theorem dX8_rank_5 : decode cX8_rank 5 = .ok (.ifCond .ne 7, 3) := by decide +kernel
theorem dX8_rank_8 : decode cX8_rank 8 = .ok (.iconst (-1), 1) := by decide +kernel
theorem dX8_rank_9 : decode cX8_rank 9 = .ok (.goto 13, 3) := by decide +kernel
theorem dX8_rank_12 : decode cX8_rank 12 = .ok (.iload_n 2, 1) := by decide +kernel
theorem dX8_rank_13 : decode cX8_rank 13 = .ok (.ifCond .ge 8, 3) := by decide +kernel
theorem dX8_rank_16 : decode cX8_rank 16 = .ok (.bipush (-4), 2) := by decide +kernel
theorem dX8_rank_18 : decode cX8_rank 18 = .ok (.goto 4, 3) := by decide +kernel
theorem dX8_rank_21 : decode cX8_rank 21 = .ok (.iconst 0, 1) := by decide +kernel
theorem dX8_rank_22 : decode cX8_rank 22 = .ok (.istore_n 3, 1) := by decide +kernel
theorem dX8_rank_23 : decode cX8_rank 23 = .ok (.iload_n 3, 1) := by decide +kernel
theorem dX8_rank_24 : decode cX8_rank 24 = .ok (.ifCond .eq 9, 3) := by decide +kernel
theorem dX8_rank_27 : decode cX8_rank 27 = .ok (.aload_n 0, 1) := by decide +kernel
theorem dX8_rank_28 : decode cX8_rank 28 = .ok (.iload_n 3, 1) := by decide +kernel
theorem dX8_rank_29 : decode cX8_rank 29 = .ok (.invokevirtual 77, 3) := by decide +kernel
theorem dX8_rank_32 : decode cX8_rank 32 = .ok (.ireturn, 1) := by decide +kernel
theorem dX8_rank_33 : decode cX8_rank 33 = .ok (.iconst 0, 1) := by decide +kernel
theorem dX8_rank_34 : decode cX8_rank 34 = .ok (.istore 4, 2) := by decide +kernel
theorem dX8_rank_36 : decode cX8_rank 36 = .ok (.iload 4, 2) := by decide +kernel
theorem dX8_rank_38 : decode cX8_rank 38 = .ok (.aload_n 0, 1) := by decide +kernel
theorem dX8_rank_39 : decode cX8_rank 39 = .ok (.getfield 67, 3) := by decide +kernel
theorem dX8_rank_42 : decode cX8_rank 42 = .ok (.if_icmp .ge 23, 3) := by decide +kernel
theorem dX8_rank_45 : decode cX8_rank 45 = .ok (.aload_n 0, 1) := by decide +kernel
theorem dX8_rank_46 : decode cX8_rank 46 = .ok (.iload 4, 2) := by decide +kernel
theorem dX8_rank_48 : decode cX8_rank 48 = .ok (.iload_n 1, 1) := by decide +kernel
theorem dX8_rank_49 : decode cX8_rank 49 = .ok (.invokevirtual 264, 3) := by decide +kernel
theorem dX8_rank_52 : decode cX8_rank 52 = .ok (.iload_n 2, 1) := by decide +kernel
theorem dX8_rank_53 : decode cX8_rank 53 = .ok (.if_icmp .ne 6, 3) := by decide +kernel
theorem dX8_rank_56 : decode cX8_rank 56 = .ok (.iload 4, 2) := by decide +kernel
theorem dX8_rank_58 : decode cX8_rank 58 = .ok (.ireturn, 1) := by decide +kernel
theorem dX8_rank_59 : decode cX8_rank 59 = .ok (.iinc 4 1, 3) := by decide +kernel
theorem dX8_rank_62 : decode cX8_rank 62 = .ok (.goto (-26), 3) := by decide +kernel
theorem dX8_rank_65 : decode cX8_rank 65 = .ok (.bipush (-9), 2) := by decide +kernel
theorem dX8_rank_67 : decode cX8_rank 67 = .ok (.ireturn, 1) := by decide +kernel
theorem dX8_skillWanted_0 : decode cX8_skillWanted 0 = .ok (.aload_n 0, 1) := by decide +kernel
theorem dX8_skillWanted_1 : decode cX8_skillWanted 1 = .ok (.iload_n 1, 1) := by decide +kernel
theorem dX8_skillWanted_2 : decode cX8_skillWanted 2 = .ok (.iload_n 2, 1) := by decide +kernel
theorem dX8_skillWanted_3 : decode cX8_skillWanted 3 = .ok (.iload_n 3, 1) := by decide +kernel
theorem dX8_skillWanted_4 : decode cX8_skillWanted 4 = .ok (.invokevirtual 203, 3) := by decide +kernel
theorem dX8_skillWanted_7 : decode cX8_skillWanted 7 = .ok (.ifCond .ne 9, 3) := by decide +kernel
theorem dX8_skillWanted_10 : decode cX8_skillWanted 10 = .ok (.aload_n 0, 1) := by decide +kernel
theorem dX8_skillWanted_11 : decode cX8_skillWanted 11 = .ok (.iconst (-1), 1) := by decide +kernel
theorem dX8_skillWanted_12 : decode cX8_skillWanted 12 = .ok (.invokevirtual 77, 3) := by decide +kernel
theorem dX8_skillWanted_15 : decode cX8_skillWanted 15 = .ok (.ireturn, 1) := by decide +kernel
theorem dX8_skillWanted_16 : decode cX8_skillWanted 16 = .ok (.aload_n 0, 1) := by decide +kernel
theorem dX8_skillWanted_17 : decode cX8_skillWanted 17 = .ok (.getfield 25, 3) := by decide +kernel
theorem dX8_skillWanted_20 : decode cX8_skillWanted 20 = .ok (.iload_n 1, 1) := by decide +kernel
theorem dX8_skillWanted_21 : decode cX8_skillWanted 21 = .ok (.iaload, 1) := by decide +kernel
theorem dX8_skillWanted_22 : decode cX8_skillWanted 22 = .ok (.istore 4, 2) := by decide +kernel
theorem dX8_skillWanted_24 : decode cX8_skillWanted 24 = .ok (.bipush (-9), 2) := by decide +kernel
theorem dX8_skillWanted_26 : decode cX8_skillWanted 26 = .ok (.istore 5, 2) := by decide +kernel
theorem dX8_skillWanted_28 : decode cX8_skillWanted 28 = .ok (.iconst 0, 1) := by decide +kernel
theorem dX8_skillWanted_29 : decode cX8_skillWanted 29 = .ok (.istore 6, 2) := by decide +kernel
theorem dX8_skillWanted_31 : decode cX8_skillWanted 31 = .ok (.iload 6, 2) := by decide +kernel
theorem dX8_skillWanted_33 : decode cX8_skillWanted 33 = .ok (.bipush 10, 2) := by decide +kernel
theorem dX8_skillWanted_35 : decode cX8_skillWanted 35 = .ok (.if_icmp .ge 41, 3) := by decide +kernel
theorem dX8_skillWanted_38 : decode cX8_skillWanted 38 = .ok (.iload 5, 2) := by decide +kernel
theorem dX8_skillWanted_40 : decode cX8_skillWanted 40 = .ok (.ifCond .ge 36, 3) := by decide +kernel
theorem dX8_skillWanted_43 : decode cX8_skillWanted 43 = .ok (.aload_n 0, 1) := by decide +kernel
theorem dX8_skillWanted_44 : decode cX8_skillWanted 44 = .ok (.getfield 25, 3) := by decide +kernel
theorem dX8_skillWanted_47 : decode cX8_skillWanted 47 = .ok (.iload_n 1, 1) := by decide +kernel
theorem dX8_skillWanted_48 : decode cX8_skillWanted 48 = .ok (.iload 6, 2) := by decide +kernel
theorem dX8_skillWanted_50 : decode cX8_skillWanted 50 = .ok (.iastore, 1) := by decide +kernel
theorem dX8_skillWanted_51 : decode cX8_skillWanted 51 = .ok (.aload_n 0, 1) := by decide +kernel
theorem dX8_skillWanted_52 : decode cX8_skillWanted 52 = .ok (.iload_n 1, 1) := by decide +kernel
theorem dX8_skillWanted_53 : decode cX8_skillWanted 53 = .ok (.iload_n 2, 1) := by decide +kernel
theorem dX8_skillWanted_54 : decode cX8_skillWanted 54 = .ok (.iload_n 3, 1) := by decide +kernel
theorem dX8_skillWanted_55 : decode cX8_skillWanted 55 = .ok (.invokevirtual 185, 3) := by decide +kernel
theorem dX8_skillWanted_58 : decode cX8_skillWanted 58 = .ok (.ifCond .eq 8, 3) := by decide +kernel
theorem dX8_skillWanted_61 : decode cX8_skillWanted 61 = .ok (.iload 6, 2) := by decide +kernel
theorem dX8_skillWanted_63 : decode cX8_skillWanted 63 = .ok (.goto 5, 3) := by decide +kernel
theorem dX8_skillWanted_66 : decode cX8_skillWanted 66 = .ok (.bipush (-9), 2) := by decide +kernel
theorem dX8_skillWanted_68 : decode cX8_skillWanted 68 = .ok (.istore 5, 2) := by decide +kernel
theorem dX8_skillWanted_70 : decode cX8_skillWanted 70 = .ok (.iinc 6 1, 3) := by decide +kernel
theorem dX8_skillWanted_73 : decode cX8_skillWanted 73 = .ok (.goto (-42), 3) := by decide +kernel
theorem dX8_skillWanted_76 : decode cX8_skillWanted 76 = .ok (.aload_n 0, 1) := by decide +kernel
theorem dX8_skillWanted_77 : decode cX8_skillWanted 77 = .ok (.getfield 25, 3) := by decide +kernel
theorem dX8_skillWanted_80 : decode cX8_skillWanted 80 = .ok (.iload_n 1, 1) := by decide +kernel
theorem dX8_skillWanted_81 : decode cX8_skillWanted 81 = .ok (.iload 4, 2) := by decide +kernel
theorem dX8_skillWanted_83 : decode cX8_skillWanted 83 = .ok (.iastore, 1) := by decide +kernel
theorem dX8_skillWanted_84 : decode cX8_skillWanted 84 = .ok (.iload 5, 2) := by decide +kernel
theorem dX8_skillWanted_86 : decode cX8_skillWanted 86 = .ok (.ireturn, 1) := by decide +kernel
theorem dX8_allPass_0 : decode cX8_allPass 0 = .ok (.iconst 0, 1) := by decide +kernel
theorem dX8_allPass_1 : decode cX8_allPass 1 = .ok (.istore_n 1, 1) := by decide +kernel
theorem dX8_allPass_2 : decode cX8_allPass 2 = .ok (.iload_n 1, 1) := by decide +kernel
theorem dX8_allPass_3 : decode cX8_allPass 3 = .ok (.aload_n 0, 1) := by decide +kernel
theorem dX8_allPass_4 : decode cX8_allPass 4 = .ok (.getfield 67, 3) := by decide +kernel
theorem dX8_allPass_7 : decode cX8_allPass 7 = .ok (.if_icmp .ge 31, 3) := by decide +kernel
theorem dX8_allPass_10 : decode cX8_allPass 10 = .ok (.aload_n 0, 1) := by decide +kernel
theorem dX8_allPass_11 : decode cX8_allPass 11 = .ok (.iload_n 1, 1) := by decide +kernel
theorem dX8_allPass_12 : decode cX8_allPass 12 = .ok (.aload_n 0, 1) := by decide +kernel
theorem dX8_allPass_13 : decode cX8_allPass 13 = .ok (.getfield 52, 3) := by decide +kernel
theorem dX8_allPass_16 : decode cX8_allPass 16 = .ok (.invokevirtual 209, 3) := by decide +kernel
theorem dX8_allPass_19 : decode cX8_allPass 19 = .ok (.iconst 1, 1) := by decide +kernel
theorem dX8_allPass_20 : decode cX8_allPass 20 = .ok (.aload_n 0, 1) := by decide +kernel
theorem dX8_allPass_21 : decode cX8_allPass 21 = .ok (.getfield 64, 3) := by decide +kernel
theorem dX8_allPass_24 : decode cX8_allPass 24 = .ok (.ishl, 1) := by decide +kernel
theorem dX8_allPass_25 : decode cX8_allPass 25 = .ok (.iconst 1, 1) := by decide +kernel
theorem dX8_allPass_26 : decode cX8_allPass 26 = .ok (.isub, 1) := by decide +kernel
theorem dX8_allPass_27 : decode cX8_allPass 27 = .ok (.if_icmp .eq 5, 3) := by decide +kernel
theorem dX8_allPass_30 : decode cX8_allPass 30 = .ok (.iconst 0, 1) := by decide +kernel
theorem dX8_allPass_31 : decode cX8_allPass 31 = .ok (.ireturn, 1) := by decide +kernel
theorem dX8_allPass_32 : decode cX8_allPass 32 = .ok (.iinc 1 1, 3) := by decide +kernel
theorem dX8_allPass_35 : decode cX8_allPass 35 = .ok (.goto (-33), 3) := by decide +kernel
theorem dX8_allPass_38 : decode cX8_allPass 38 = .ok (.iconst 1, 1) := by decide +kernel
theorem dX8_allPass_39 : decode cX8_allPass 39 = .ok (.ireturn, 1) := by decide +kernel
theorem dX8_limitWanted_0 : decode cX8_limitWanted 0 = .ok (.aload_n 0, 1) := by decide +kernel
theorem dX8_limitWanted_1 : decode cX8_limitWanted 1 = .ok (.getfield 56, 3) := by decide +kernel
theorem dX8_limitWanted_4 : decode cX8_limitWanted 4 = .ok (.istore_n 1, 1) := by decide +kernel
theorem dX8_limitWanted_5 : decode cX8_limitWanted 5 = .ok (.bipush (-9), 2) := by decide +kernel
theorem dX8_limitWanted_7 : decode cX8_limitWanted 7 = .ok (.istore_n 2, 1) := by decide +kernel
theorem dX8_limitWanted_8 : decode cX8_limitWanted 8 = .ok (.iconst 0, 1) := by decide +kernel
theorem dX8_limitWanted_9 : decode cX8_limitWanted 9 = .ok (.istore_n 3, 1) := by decide +kernel
theorem dX8_limitWanted_10 : decode cX8_limitWanted 10 = .ok (.iload_n 3, 1) := by decide +kernel
theorem dX8_limitWanted_11 : decode cX8_limitWanted 11 = .ok (.bipush 99, 2) := by decide +kernel
theorem dX8_limitWanted_13 : decode cX8_limitWanted 13 = .ok (.if_icmp .gt 32, 3) := by decide +kernel
theorem dX8_limitWanted_16 : decode cX8_limitWanted 16 = .ok (.iload_n 2, 1) := by decide +kernel
theorem dX8_limitWanted_17 : decode cX8_limitWanted 17 = .ok (.ifCond .ge 28, 3) := by decide +kernel
theorem dX8_limitWanted_20 : decode cX8_limitWanted 20 = .ok (.aload_n 0, 1) := by decide +kernel
theorem dX8_limitWanted_21 : decode cX8_limitWanted 21 = .ok (.iload_n 3, 1) := by decide +kernel
theorem dX8_limitWanted_22 : decode cX8_limitWanted 22 = .ok (.putfield 56, 3) := by decide +kernel
theorem dX8_limitWanted_25 : decode cX8_limitWanted 25 = .ok (.aload_n 0, 1) := by decide +kernel
theorem dX8_limitWanted_26 : decode cX8_limitWanted 26 = .ok (.invokevirtual 267, 3) := by decide +kernel
theorem dX8_limitWanted_29 : decode cX8_limitWanted 29 = .ok (.ifCond .eq 7, 3) := by decide +kernel
theorem dX8_limitWanted_32 : decode cX8_limitWanted 32 = .ok (.iload_n 3, 1) := by decide +kernel
theorem dX8_limitWanted_33 : decode cX8_limitWanted 33 = .ok (.goto 5, 3) := by decide +kernel
theorem dX8_limitWanted_36 : decode cX8_limitWanted 36 = .ok (.bipush (-9), 2) := by decide +kernel
theorem dX8_limitWanted_38 : decode cX8_limitWanted 38 = .ok (.istore_n 2, 1) := by decide +kernel
theorem dX8_limitWanted_39 : decode cX8_limitWanted 39 = .ok (.iinc 3 1, 3) := by decide +kernel
theorem dX8_limitWanted_42 : decode cX8_limitWanted 42 = .ok (.goto (-32), 3) := by decide +kernel
theorem dX8_limitWanted_45 : decode cX8_limitWanted 45 = .ok (.aload_n 0, 1) := by decide +kernel
theorem dX8_limitWanted_46 : decode cX8_limitWanted 46 = .ok (.iload_n 1, 1) := by decide +kernel
theorem dX8_limitWanted_47 : decode cX8_limitWanted 47 = .ok (.putfield 56, 3) := by decide +kernel
theorem dX8_limitWanted_50 : decode cX8_limitWanted 50 = .ok (.iload_n 2, 1) := by decide +kernel
theorem dX8_limitWanted_51 : decode cX8_limitWanted 51 = .ok (.ireturn, 1) := by decide +kernel
theorem dX8_manyPass_0 : decode cX8_manyPass 0 = .ok (.iconst 0, 1) := by decide +kernel
theorem dX8_manyPass_1 : decode cX8_manyPass 1 = .ok (.istore_n 3, 1) := by decide +kernel
theorem dX8_manyPass_2 : decode cX8_manyPass 2 = .ok (.iconst 0, 1) := by decide +kernel
theorem dX8_manyPass_3 : decode cX8_manyPass 3 = .ok (.istore 4, 2) := by decide +kernel
theorem dX8_manyPass_5 : decode cX8_manyPass 5 = .ok (.iload 4, 2) := by decide +kernel
theorem dX8_manyPass_7 : decode cX8_manyPass 7 = .ok (.aload_n 0, 1) := by decide +kernel
theorem dX8_manyPass_8 : decode cX8_manyPass 8 = .ok (.getfield 67, 3) := by decide +kernel
theorem dX8_manyPass_11 : decode cX8_manyPass 11 = .ok (.if_icmp .ge 28, 3) := by decide +kernel
theorem dX8_manyPass_14 : decode cX8_manyPass 14 = .ok (.iload_n 3, 1) := by decide +kernel
theorem dX8_manyPass_15 : decode cX8_manyPass 15 = .ok (.aload_n 0, 1) := by decide +kernel
theorem dX8_manyPass_16 : decode cX8_manyPass 16 = .ok (.iload 4, 2) := by decide +kernel
theorem dX8_manyPass_18 : decode cX8_manyPass 18 = .ok (.iload_n 1, 1) := by decide +kernel
theorem dX8_manyPass_19 : decode cX8_manyPass 19 = .ok (.iload_n 2, 1) := by decide +kernel
theorem dX8_manyPass_20 : decode cX8_manyPass 20 = .ok (.invokevirtual 185, 3) := by decide +kernel
theorem dX8_manyPass_23 : decode cX8_manyPass 23 = .ok (.ifCond .eq 7, 3) := by decide +kernel
theorem dX8_manyPass_26 : decode cX8_manyPass 26 = .ok (.iconst 1, 1) := by decide +kernel
theorem dX8_manyPass_27 : decode cX8_manyPass 27 = .ok (.goto 4, 3) := by decide +kernel
theorem dX8_manyPass_30 : decode cX8_manyPass 30 = .ok (.iconst 0, 1) := by decide +kernel
theorem dX8_manyPass_31 : decode cX8_manyPass 31 = .ok (.iadd, 1) := by decide +kernel
theorem dX8_manyPass_32 : decode cX8_manyPass 32 = .ok (.istore_n 3, 1) := by decide +kernel
theorem dX8_manyPass_33 : decode cX8_manyPass 33 = .ok (.iinc 4 1, 3) := by decide +kernel
theorem dX8_manyPass_36 : decode cX8_manyPass 36 = .ok (.goto (-31), 3) := by decide +kernel
theorem dX8_manyPass_39 : decode cX8_manyPass 39 = .ok (.iload_n 3, 1) := by decide +kernel
theorem dX8_manyPass_40 : decode cX8_manyPass 40 = .ok (.ireturn, 1) := by decide +kernel
theorem dX8_rush_0 : decode cX8_rush 0 = .ok (.aload_n 0, 1) := by decide +kernel
theorem dX8_rush_1 : decode cX8_rush 1 = .ok (.iload_n 1, 1) := by decide +kernel
theorem dX8_rush_2 : decode cX8_rush 2 = .ok (.invokevirtual 120, 3) := by decide +kernel
theorem dX8_rush_5 : decode cX8_rush 5 = .ok (.ifCond .ne 7, 3) := by decide +kernel
theorem dX8_rush_8 : decode cX8_rush 8 = .ok (.iconst (-1), 1) := by decide +kernel
theorem dX8_rush_9 : decode cX8_rush 9 = .ok (.goto 18, 3) := by decide +kernel
theorem dX8_rush_12 : decode cX8_rush 12 = .ok (.iload_n 2, 1) := by decide +kernel
theorem dX8_rush_13 : decode cX8_rush 13 = .ok (.iconst 0, 1) := by decide +kernel
theorem dX8_rush_14 : decode cX8_rush 14 = .ok (.iconst 1, 1) := by decide +kernel
theorem dX8_rush_15 : decode cX8_rush 15 = .ok (.invokestatic 88, 3) := by decide +kernel
theorem dX8_rush_18 : decode cX8_rush 18 = .ok (.ifCond .ne 8, 3) := by decide +kernel
theorem dX8_rush_21 : decode cX8_rush 21 = .ok (.bipush (-2), 2) := by decide +kernel
theorem dX8_rush_23 : decode cX8_rush 23 = .ok (.goto 4, 3) := by decide +kernel
theorem dX8_rush_26 : decode cX8_rush 26 = .ok (.iconst 0, 1) := by decide +kernel
theorem dX8_rush_27 : decode cX8_rush 27 = .ok (.istore_n 3, 1) := by decide +kernel
theorem dX8_rush_28 : decode cX8_rush 28 = .ok (.iload_n 3, 1) := by decide +kernel
theorem dX8_rush_29 : decode cX8_rush 29 = .ok (.ifCond .eq 9, 3) := by decide +kernel
theorem dX8_rush_32 : decode cX8_rush 32 = .ok (.aload_n 0, 1) := by decide +kernel
theorem dX8_rush_33 : decode cX8_rush 33 = .ok (.iload_n 3, 1) := by decide +kernel
theorem dX8_rush_34 : decode cX8_rush 34 = .ok (.invokevirtual 77, 3) := by decide +kernel
theorem dX8_rush_37 : decode cX8_rush 37 = .ok (.ireturn, 1) := by decide +kernel
theorem dX8_rush_38 : decode cX8_rush 38 = .ok (.iconst 0, 1) := by decide +kernel
theorem dX8_rush_39 : decode cX8_rush 39 = .ok (.istore 4, 2) := by decide +kernel
theorem dX8_rush_41 : decode cX8_rush 41 = .ok (.iconst 1, 1) := by decide +kernel
theorem dX8_rush_42 : decode cX8_rush 42 = .ok (.istore 5, 2) := by decide +kernel
theorem dX8_rush_44 : decode cX8_rush 44 = .ok (.iload 5, 2) := by decide +kernel
theorem dX8_rush_46 : decode cX8_rush 46 = .ok (.bipush 24, 2) := by decide +kernel
theorem dX8_rush_48 : decode cX8_rush 48 = .ok (.if_icmp .ge 35, 3) := by decide +kernel
theorem dX8_rush_51 : decode cX8_rush 51 = .ok (.aload_n 0, 1) := by decide +kernel
theorem dX8_rush_52 : decode cX8_rush 52 = .ok (.iload_n 1, 1) := by decide +kernel
theorem dX8_rush_53 : decode cX8_rush 53 = .ok (.iload 5, 2) := by decide +kernel
theorem dX8_rush_55 : decode cX8_rush 55 = .ok (.invokevirtual 270, 3) := by decide +kernel
theorem dX8_rush_58 : decode cX8_rush 58 = .ok (.aload_n 0, 1) := by decide +kernel
theorem dX8_rush_59 : decode cX8_rush 59 = .ok (.iload_n 1, 1) := by decide +kernel
theorem dX8_rush_60 : decode cX8_rush 60 = .ok (.iload 4, 2) := by decide +kernel
theorem dX8_rush_62 : decode cX8_rush 62 = .ok (.invokevirtual 270, 3) := by decide +kernel
theorem dX8_rush_65 : decode cX8_rush 65 = .ok (.if_icmp .le 8, 3) := by decide +kernel
theorem dX8_rush_68 : decode cX8_rush 68 = .ok (.iload 5, 2) := by decide +kernel
theorem dX8_rush_70 : decode cX8_rush 70 = .ok (.goto 5, 3) := by decide +kernel
theorem dX8_rush_73 : decode cX8_rush 73 = .ok (.iload 4, 2) := by decide +kernel
theorem dX8_rush_75 : decode cX8_rush 75 = .ok (.istore 4, 2) := by decide +kernel
theorem dX8_rush_77 : decode cX8_rush 77 = .ok (.iinc 5 1, 3) := by decide +kernel
theorem dX8_rush_80 : decode cX8_rush 80 = .ok (.goto (-36), 3) := by decide +kernel
theorem dX8_rush_83 : decode cX8_rush 83 = .ok (.iload_n 2, 1) := by decide +kernel
theorem dX8_rush_84 : decode cX8_rush 84 = .ok (.ifCond .ne 8, 3) := by decide +kernel
theorem dX8_rush_87 : decode cX8_rush 87 = .ok (.iload 4, 2) := by decide +kernel
theorem dX8_rush_89 : decode cX8_rush 89 = .ok (.goto 10, 3) := by decide +kernel
theorem dX8_rush_92 : decode cX8_rush 92 = .ok (.aload_n 0, 1) := by decide +kernel
theorem dX8_rush_93 : decode cX8_rush 93 = .ok (.iload_n 1, 1) := by decide +kernel
theorem dX8_rush_94 : decode cX8_rush 94 = .ok (.iload 4, 2) := by decide +kernel
theorem dX8_rush_96 : decode cX8_rush 96 = .ok (.invokevirtual 270, 3) := by decide +kernel
theorem dX8_rush_99 : decode cX8_rush 99 = .ok (.ireturn, 1) := by decide +kernel
theorem dX8_newPasses_0 : decode cX8_newPasses 0 = .ok (.iconst 0, 1) := by decide +kernel
theorem dX8_newPasses_1 : decode cX8_newPasses 1 = .ok (.istore_n 3, 1) := by decide +kernel
theorem dX8_newPasses_2 : decode cX8_newPasses 2 = .ok (.iconst 0, 1) := by decide +kernel
theorem dX8_newPasses_3 : decode cX8_newPasses 3 = .ok (.istore 4, 2) := by decide +kernel
theorem dX8_newPasses_5 : decode cX8_newPasses 5 = .ok (.iload 4, 2) := by decide +kernel
theorem dX8_newPasses_7 : decode cX8_newPasses 7 = .ok (.aload_n 0, 1) := by decide +kernel
theorem dX8_newPasses_8 : decode cX8_newPasses 8 = .ok (.getfield 61, 3) := by decide +kernel
theorem dX8_newPasses_11 : decode cX8_newPasses 11 = .ok (.if_icmp .ge 63, 3) := by decide +kernel
theorem dX8_newPasses_14 : decode cX8_newPasses 14 = .ok (.iload_n 2, 1) := by decide +kernel
theorem dX8_newPasses_15 : decode cX8_newPasses 15 = .ok (.iload 4, 2) := by decide +kernel
theorem dX8_newPasses_17 : decode cX8_newPasses 17 = .ok (.invokestatic 173, 3) := by decide +kernel
theorem dX8_newPasses_20 : decode cX8_newPasses 20 = .ok (.ifCond .eq 32, 3) := by decide +kernel
theorem dX8_newPasses_23 : decode cX8_newPasses 23 = .ok (.aload_n 0, 1) := by decide +kernel
theorem dX8_newPasses_24 : decode cX8_newPasses 24 = .ok (.iload 4, 2) := by decide +kernel
theorem dX8_newPasses_26 : decode cX8_newPasses 26 = .ok (.aload_n 0, 1) := by decide +kernel
theorem dX8_newPasses_27 : decode cX8_newPasses 27 = .ok (.getfield 52, 3) := by decide +kernel
theorem dX8_newPasses_30 : decode cX8_newPasses 30 = .ok (.invokevirtual 169, 3) := by decide +kernel
theorem dX8_newPasses_33 : decode cX8_newPasses 33 = .ok (.iload_n 1, 1) := by decide +kernel
theorem dX8_newPasses_34 : decode cX8_newPasses 34 = .ok (.if_icmp .le 18, 3) := by decide +kernel
theorem dX8_newPasses_37 : decode cX8_newPasses 37 = .ok (.aload_n 0, 1) := by decide +kernel
theorem dX8_newPasses_38 : decode cX8_newPasses 38 = .ok (.iload 4, 2) := by decide +kernel
theorem dX8_newPasses_40 : decode cX8_newPasses 40 = .ok (.aload_n 0, 1) := by decide +kernel
theorem dX8_newPasses_41 : decode cX8_newPasses 41 = .ok (.getfield 52, 3) := by decide +kernel
theorem dX8_newPasses_44 : decode cX8_newPasses 44 = .ok (.invokevirtual 169, 3) := by decide +kernel
theorem dX8_newPasses_47 : decode cX8_newPasses 47 = .ok (.iload_n 1, 1) := by decide +kernel
theorem dX8_newPasses_48 : decode cX8_newPasses 48 = .ok (.isub, 1) := by decide +kernel
theorem dX8_newPasses_49 : decode cX8_newPasses 49 = .ok (.goto 4, 3) := by decide +kernel
theorem dX8_newPasses_52 : decode cX8_newPasses 52 = .ok (.iconst 0, 1) := by decide +kernel
theorem dX8_newPasses_53 : decode cX8_newPasses 53 = .ok (.istore 5, 2) := by decide +kernel
theorem dX8_newPasses_55 : decode cX8_newPasses 55 = .ok (.iload 5, 2) := by decide +kernel
theorem dX8_newPasses_57 : decode cX8_newPasses 57 = .ok (.iconst 5, 1) := by decide +kernel
theorem dX8_newPasses_58 : decode cX8_newPasses 58 = .ok (.if_icmp .le 5, 3) := by decide +kernel
theorem dX8_newPasses_61 : decode cX8_newPasses 61 = .ok (.iconst 0, 1) := by decide +kernel
theorem dX8_newPasses_62 : decode cX8_newPasses 62 = .ok (.ireturn, 1) := by decide +kernel
theorem dX8_newPasses_63 : decode cX8_newPasses 63 = .ok (.iload_n 3, 1) := by decide +kernel
theorem dX8_newPasses_64 : decode cX8_newPasses 64 = .ok (.iload 5, 2) := by decide +kernel
theorem dX8_newPasses_66 : decode cX8_newPasses 66 = .ok (.iadd, 1) := by decide +kernel
theorem dX8_newPasses_67 : decode cX8_newPasses 67 = .ok (.istore_n 3, 1) := by decide +kernel
theorem dX8_newPasses_68 : decode cX8_newPasses 68 = .ok (.iinc 4 1, 3) := by decide +kernel
theorem dX8_newPasses_71 : decode cX8_newPasses 71 = .ok (.goto (-66), 3) := by decide +kernel
theorem dX8_newPasses_74 : decode cX8_newPasses 74 = .ok (.iload_n 3, 1) := by decide +kernel
theorem dX8_newPasses_75 : decode cX8_newPasses 75 = .ok (.aload_n 0, 1) := by decide +kernel
theorem dX8_newPasses_76 : decode cX8_newPasses 76 = .ok (.getfield 56, 3) := by decide +kernel
theorem dX8_newPasses_79 : decode cX8_newPasses 79 = .ok (.if_icmp .gt 7, 3) := by decide +kernel
theorem dX8_newPasses_82 : decode cX8_newPasses 82 = .ok (.iconst 1, 1) := by decide +kernel
theorem dX8_newPasses_83 : decode cX8_newPasses 83 = .ok (.goto 4, 3) := by decide +kernel
theorem dX8_newPasses_86 : decode cX8_newPasses 86 = .ok (.iconst 0, 1) := by decide +kernel
theorem dX8_newPasses_87 : decode cX8_newPasses 87 = .ok (.ireturn, 1) := by decide +kernel
theorem dX8_newcomer_0 : decode cX8_newcomer 0 = .ok (.iload_n 1, 1) := by decide +kernel
theorem dX8_newcomer_1 : decode cX8_newcomer 1 = .ok (.iconst 0, 1) := by decide +kernel
theorem dX8_newcomer_2 : decode cX8_newcomer 2 = .ok (.bipush 9, 2) := by decide +kernel
theorem dX8_newcomer_4 : decode cX8_newcomer 4 = .ok (.invokestatic 70, 3) := by decide +kernel
theorem dX8_newcomer_7 : decode cX8_newcomer 7 = .ok (.istore_n 2, 1) := by decide +kernel
theorem dX8_newcomer_8 : decode cX8_newcomer 8 = .ok (.iload_n 2, 1) := by decide +kernel
theorem dX8_newcomer_9 : decode cX8_newcomer 9 = .ok (.ifCond .eq 9, 3) := by decide +kernel
theorem dX8_newcomer_12 : decode cX8_newcomer 12 = .ok (.aload_n 0, 1) := by decide +kernel
theorem dX8_newcomer_13 : decode cX8_newcomer 13 = .ok (.iload_n 2, 1) := by decide +kernel
theorem dX8_newcomer_14 : decode cX8_newcomer 14 = .ok (.invokevirtual 77, 3) := by decide +kernel
theorem dX8_newcomer_17 : decode cX8_newcomer 17 = .ok (.ireturn, 1) := by decide +kernel
theorem dX8_newcomer_18 : decode cX8_newcomer 18 = .ok (.iconst 0, 1) := by decide +kernel
theorem dX8_newcomer_19 : decode cX8_newcomer 19 = .ok (.istore_n 3, 1) := by decide +kernel
theorem dX8_newcomer_20 : decode cX8_newcomer 20 = .ok (.iconst 0, 1) := by decide +kernel
theorem dX8_newcomer_21 : decode cX8_newcomer 21 = .ok (.istore 4, 2) := by decide +kernel
theorem dX8_newcomer_23 : decode cX8_newcomer 23 = .ok (.iload 4, 2) := by decide +kernel
theorem dX8_newcomer_25 : decode cX8_newcomer 25 = .ok (.aload_n 0, 1) := by decide +kernel
theorem dX8_newcomer_26 : decode cX8_newcomer 26 = .ok (.getfield 64, 3) := by decide +kernel
theorem dX8_newcomer_29 : decode cX8_newcomer 29 = .ok (.if_icmp .ge 35, 3) := by decide +kernel
theorem dX8_newcomer_32 : decode cX8_newcomer 32 = .ok (.iload_n 3, 1) := by decide +kernel
theorem dX8_newcomer_33 : decode cX8_newcomer 33 = .ok (.aload_n 0, 1) := by decide +kernel
theorem dX8_newcomer_34 : decode cX8_newcomer 34 = .ok (.iload_n 1, 1) := by decide +kernel
theorem dX8_newcomer_35 : decode cX8_newcomer 35 = .ok (.aload_n 0, 1) := by decide +kernel
theorem dX8_newcomer_36 : decode cX8_newcomer 36 = .ok (.getfield 22, 3) := by decide +kernel
theorem dX8_newcomer_39 : decode cX8_newcomer 39 = .ok (.iload 4, 2) := by decide +kernel
theorem dX8_newcomer_41 : decode cX8_newcomer 41 = .ok (.iaload, 1) := by decide +kernel
theorem dX8_newcomer_42 : decode cX8_newcomer 42 = .ok (.invokevirtual 273, 3) := by decide +kernel
theorem dX8_newcomer_45 : decode cX8_newcomer 45 = .ok (.ifCond .eq 10, 3) := by decide +kernel
theorem dX8_newcomer_48 : decode cX8_newcomer 48 = .ok (.iconst 1, 1) := by decide +kernel
theorem dX8_newcomer_49 : decode cX8_newcomer 49 = .ok (.iload 4, 2) := by decide +kernel
theorem dX8_newcomer_51 : decode cX8_newcomer 51 = .ok (.ishl, 1) := by decide +kernel
theorem dX8_newcomer_52 : decode cX8_newcomer 52 = .ok (.goto 4, 3) := by decide +kernel
theorem dX8_newcomer_55 : decode cX8_newcomer 55 = .ok (.iconst 0, 1) := by decide +kernel
theorem dX8_newcomer_56 : decode cX8_newcomer 56 = .ok (.ior, 1) := by decide +kernel
theorem dX8_newcomer_57 : decode cX8_newcomer 57 = .ok (.istore_n 3, 1) := by decide +kernel
theorem dX8_newcomer_58 : decode cX8_newcomer 58 = .ok (.iinc 4 1, 3) := by decide +kernel
theorem dX8_newcomer_61 : decode cX8_newcomer 61 = .ok (.goto (-38), 3) := by decide +kernel
theorem dX8_newcomer_64 : decode cX8_newcomer 64 = .ok (.iload_n 3, 1) := by decide +kernel
theorem dX8_newcomer_65 : decode cX8_newcomer 65 = .ok (.ireturn, 1) := by decide +kernel
theorem dX8_passedAtAll_0 : decode cX8_passedAtAll 0 = .ok (.iconst 0, 1) := by decide +kernel
theorem dX8_passedAtAll_1 : decode cX8_passedAtAll 1 = .ok (.istore_n 2, 1) := by decide +kernel
theorem dX8_passedAtAll_2 : decode cX8_passedAtAll 2 = .ok (.iconst 0, 1) := by decide +kernel
theorem dX8_passedAtAll_3 : decode cX8_passedAtAll 3 = .ok (.istore_n 3, 1) := by decide +kernel
theorem dX8_passedAtAll_4 : decode cX8_passedAtAll 4 = .ok (.iload_n 3, 1) := by decide +kernel
theorem dX8_passedAtAll_5 : decode cX8_passedAtAll 5 = .ok (.bipush 24, 2) := by decide +kernel
theorem dX8_passedAtAll_7 : decode cX8_passedAtAll 7 = .ok (.if_icmp .ge 21, 3) := by decide +kernel
theorem dX8_passedAtAll_10 : decode cX8_passedAtAll 10 = .ok (.iload_n 2, 1) := by decide +kernel
theorem dX8_passedAtAll_11 : decode cX8_passedAtAll 11 = .ok (.aload_n 0, 1) := by decide +kernel
theorem dX8_passedAtAll_12 : decode cX8_passedAtAll 12 = .ok (.iload_n 1, 1) := by decide +kernel
theorem dX8_passedAtAll_13 : decode cX8_passedAtAll 13 = .ok (.iload_n 3, 1) := by decide +kernel
theorem dX8_passedAtAll_14 : decode cX8_passedAtAll 14 = .ok (.invokevirtual 209, 3) := by decide +kernel
theorem dX8_passedAtAll_17 : decode cX8_passedAtAll 17 = .ok (.invokestatic 212, 3) := by decide +kernel
theorem dX8_passedAtAll_20 : decode cX8_passedAtAll 20 = .ok (.iadd, 1) := by decide +kernel
theorem dX8_passedAtAll_21 : decode cX8_passedAtAll 21 = .ok (.istore_n 2, 1) := by decide +kernel
theorem dX8_passedAtAll_22 : decode cX8_passedAtAll 22 = .ok (.iinc 3 1, 3) := by decide +kernel
theorem dX8_passedAtAll_25 : decode cX8_passedAtAll 25 = .ok (.goto (-21), 3) := by decide +kernel
theorem dX8_passedAtAll_28 : decode cX8_passedAtAll 28 = .ok (.iload_n 2, 1) := by decide +kernel
theorem dX8_passedAtAll_29 : decode cX8_passedAtAll 29 = .ok (.ireturn, 1) := by decide +kernel
theorem dX8_gainOf_0 : decode cX8_gainOf 0 = .ok (.aload_n 0, 1) := by decide +kernel
theorem dX8_gainOf_1 : decode cX8_gainOf 1 = .ok (.getfield 28, 3) := by decide +kernel
theorem dX8_gainOf_4 : decode cX8_gainOf 4 = .ok (.iload_n 1, 1) := by decide +kernel
theorem dX8_gainOf_5 : decode cX8_gainOf 5 = .ok (.iaload, 1) := by decide +kernel
theorem dX8_gainOf_6 : decode cX8_gainOf 6 = .ok (.istore_n 3, 1) := by decide +kernel
theorem dX8_gainOf_7 : decode cX8_gainOf 7 = .ok (.aload_n 0, 1) := by decide +kernel
theorem dX8_gainOf_8 : decode cX8_gainOf 8 = .ok (.iload_n 1, 1) := by decide +kernel
theorem dX8_gainOf_9 : decode cX8_gainOf 9 = .ok (.invokevirtual 276, 3) := by decide +kernel
theorem dX8_gainOf_12 : decode cX8_gainOf 12 = .ok (.istore 4, 2) := by decide +kernel
theorem dX8_gainOf_14 : decode cX8_gainOf 14 = .ok (.aload_n 0, 1) := by decide +kernel
theorem dX8_gainOf_15 : decode cX8_gainOf 15 = .ok (.getfield 28, 3) := by decide +kernel
theorem dX8_gainOf_18 : decode cX8_gainOf 18 = .ok (.iload_n 1, 1) := by decide +kernel
theorem dX8_gainOf_19 : decode cX8_gainOf 19 = .ok (.dup2, 1) := by decide +kernel
theorem dX8_gainOf_20 : decode cX8_gainOf 20 = .ok (.iaload, 1) := by decide +kernel
theorem dX8_gainOf_21 : decode cX8_gainOf 21 = .ok (.iconst 1, 1) := by decide +kernel
theorem dX8_gainOf_22 : decode cX8_gainOf 22 = .ok (.iload_n 2, 1) := by decide +kernel
theorem dX8_gainOf_23 : decode cX8_gainOf 23 = .ok (.ishl, 1) := by decide +kernel
theorem dX8_gainOf_24 : decode cX8_gainOf 24 = .ok (.ior, 1) := by decide +kernel
theorem dX8_gainOf_25 : decode cX8_gainOf 25 = .ok (.iastore, 1) := by decide +kernel
theorem dX8_gainOf_26 : decode cX8_gainOf 26 = .ok (.aload_n 0, 1) := by decide +kernel
theorem dX8_gainOf_27 : decode cX8_gainOf 27 = .ok (.iload_n 1, 1) := by decide +kernel
theorem dX8_gainOf_28 : decode cX8_gainOf 28 = .ok (.invokevirtual 276, 3) := by decide +kernel
theorem dX8_gainOf_31 : decode cX8_gainOf 31 = .ok (.istore 5, 2) := by decide +kernel
theorem dX8_gainOf_33 : decode cX8_gainOf 33 = .ok (.aload_n 0, 1) := by decide +kernel
theorem dX8_gainOf_34 : decode cX8_gainOf 34 = .ok (.getfield 28, 3) := by decide +kernel
theorem dX8_gainOf_37 : decode cX8_gainOf 37 = .ok (.iload_n 1, 1) := by decide +kernel
theorem dX8_gainOf_38 : decode cX8_gainOf 38 = .ok (.iload_n 3, 1) := by decide +kernel
theorem dX8_gainOf_39 : decode cX8_gainOf 39 = .ok (.iastore, 1) := by decide +kernel
theorem dX8_gainOf_40 : decode cX8_gainOf 40 = .ok (.iload 5, 2) := by decide +kernel
theorem dX8_gainOf_42 : decode cX8_gainOf 42 = .ok (.iload 4, 2) := by decide +kernel
theorem dX8_gainOf_44 : decode cX8_gainOf 44 = .ok (.isub, 1) := by decide +kernel
theorem dX8_gainOf_45 : decode cX8_gainOf 45 = .ok (.ireturn, 1) := by decide +kernel
theorem dX8_gain_0 : decode cX8_gain 0 = .ok (.aload_n 0, 1) := by decide +kernel
theorem dX8_gain_1 : decode cX8_gain 1 = .ok (.iload_n 1, 1) := by decide +kernel
theorem dX8_gain_2 : decode cX8_gain 2 = .ok (.invokevirtual 114, 3) := by decide +kernel
theorem dX8_gain_5 : decode cX8_gain 5 = .ok (.ifCond .eq 16, 3) := by decide +kernel
theorem dX8_gain_8 : decode cX8_gain 8 = .ok (.iload_n 2, 1) := by decide +kernel
theorem dX8_gain_9 : decode cX8_gain 9 = .ok (.iconst (-1), 1) := by decide +kernel
theorem dX8_gain_10 : decode cX8_gain 10 = .ok (.if_icmp .eq 17, 3) := by decide +kernel
theorem dX8_gain_13 : decode cX8_gain 13 = .ok (.aload_n 0, 1) := by decide +kernel
theorem dX8_gain_14 : decode cX8_gain 14 = .ok (.iload_n 2, 1) := by decide +kernel
theorem dX8_gain_15 : decode cX8_gain 15 = .ok (.invokevirtual 117, 3) := by decide +kernel
theorem dX8_gain_18 : decode cX8_gain 18 = .ok (.ifCond .ne 9, 3) := by decide +kernel
theorem dX8_gain_21 : decode cX8_gain 21 = .ok (.aload_n 0, 1) := by decide +kernel
theorem dX8_gain_22 : decode cX8_gain 22 = .ok (.iconst (-1), 1) := by decide +kernel
theorem dX8_gain_23 : decode cX8_gain 23 = .ok (.invokevirtual 77, 3) := by decide +kernel
theorem dX8_gain_26 : decode cX8_gain 26 = .ok (.ireturn, 1) := by decide +kernel
theorem dX8_gain_27 : decode cX8_gain 27 = .ok (.iload_n 2, 1) := by decide +kernel
theorem dX8_gain_28 : decode cX8_gain 28 = .ok (.ifCond .lt 10, 3) := by decide +kernel
theorem dX8_gain_31 : decode cX8_gain 31 = .ok (.aload_n 0, 1) := by decide +kernel
theorem dX8_gain_32 : decode cX8_gain 32 = .ok (.iload_n 1, 1) := by decide +kernel
theorem dX8_gain_33 : decode cX8_gain 33 = .ok (.iload_n 2, 1) := by decide +kernel
theorem dX8_gain_34 : decode cX8_gain 34 = .ok (.invokevirtual 279, 3) := by decide +kernel
theorem dX8_gain_37 : decode cX8_gain 37 = .ok (.ireturn, 1) := by decide +kernel
theorem dX8_gain_38 : decode cX8_gain 38 = .ok (.bipush (-9), 2) := by decide +kernel
theorem dX8_gain_40 : decode cX8_gain 40 = .ok (.istore_n 3, 1) := by decide +kernel
theorem dX8_gain_41 : decode cX8_gain 41 = .ok (.iconst 0, 1) := by decide +kernel
theorem dX8_gain_42 : decode cX8_gain 42 = .ok (.istore 4, 2) := by decide +kernel
theorem dX8_gain_44 : decode cX8_gain 44 = .ok (.iload 4, 2) := by decide +kernel
theorem dX8_gain_46 : decode cX8_gain 46 = .ok (.aload_n 0, 1) := by decide +kernel
theorem dX8_gain_47 : decode cX8_gain 47 = .ok (.getfield 61, 3) := by decide +kernel
theorem dX8_gain_50 : decode cX8_gain 50 = .ok (.if_icmp .ge 46, 3) := by decide +kernel
theorem dX8_gain_53 : decode cX8_gain 53 = .ok (.aload_n 0, 1) := by decide +kernel
theorem dX8_gain_54 : decode cX8_gain 54 = .ok (.getfield 28, 3) := by decide +kernel
theorem dX8_gain_57 : decode cX8_gain 57 = .ok (.iload_n 1, 1) := by decide +kernel
theorem dX8_gain_58 : decode cX8_gain 58 = .ok (.iaload, 1) := by decide +kernel
theorem dX8_gain_59 : decode cX8_gain 59 = .ok (.iload 4, 2) := by decide +kernel
theorem dX8_gain_61 : decode cX8_gain 61 = .ok (.invokestatic 173, 3) := by decide +kernel
theorem dX8_gain_64 : decode cX8_gain 64 = .ok (.ifCond .ne 26, 3) := by decide +kernel
theorem dX8_gain_67 : decode cX8_gain 67 = .ok (.iload_n 3, 1) := by decide +kernel
theorem dX8_gain_68 : decode cX8_gain 68 = .ok (.ifCond .lt 19, 3) := by decide +kernel
theorem dX8_gain_71 : decode cX8_gain 71 = .ok (.aload_n 0, 1) := by decide +kernel
theorem dX8_gain_72 : decode cX8_gain 72 = .ok (.iload_n 1, 1) := by decide +kernel
theorem dX8_gain_73 : decode cX8_gain 73 = .ok (.iload 4, 2) := by decide +kernel
theorem dX8_gain_75 : decode cX8_gain 75 = .ok (.invokevirtual 279, 3) := by decide +kernel
theorem dX8_gain_78 : decode cX8_gain 78 = .ok (.aload_n 0, 1) := by decide +kernel
theorem dX8_gain_79 : decode cX8_gain 79 = .ok (.iload_n 1, 1) := by decide +kernel
theorem dX8_gain_80 : decode cX8_gain 80 = .ok (.iload_n 3, 1) := by decide +kernel
theorem dX8_gain_81 : decode cX8_gain 81 = .ok (.invokevirtual 279, 3) := by decide +kernel
theorem dX8_gain_84 : decode cX8_gain 84 = .ok (.if_icmp .le 6, 3) := by decide +kernel
theorem dX8_gain_87 : decode cX8_gain 87 = .ok (.iload 4, 2) := by decide +kernel
theorem dX8_gain_89 : decode cX8_gain 89 = .ok (.istore_n 3, 1) := by decide +kernel
theorem dX8_gain_90 : decode cX8_gain 90 = .ok (.iinc 4 1, 3) := by decide +kernel
theorem dX8_gain_93 : decode cX8_gain 93 = .ok (.goto (-49), 3) := by decide +kernel
theorem dX8_gain_96 : decode cX8_gain 96 = .ok (.iload_n 3, 1) := by decide +kernel
theorem dX8_gain_97 : decode cX8_gain 97 = .ok (.ireturn, 1) := by decide +kernel
theorem dX8_career_0 : decode cX8_career 0 = .ok (.aload_n 0, 1) := by decide +kernel
theorem dX8_career_1 : decode cX8_career 1 = .ok (.iload_n 1, 1) := by decide +kernel
theorem dX8_career_2 : decode cX8_career 2 = .ok (.invokevirtual 114, 3) := by decide +kernel
theorem dX8_career_5 : decode cX8_career 5 = .ok (.ifCond .ne 7, 3) := by decide +kernel
theorem dX8_career_8 : decode cX8_career 8 = .ok (.iconst (-1), 1) := by decide +kernel
theorem dX8_career_9 : decode cX8_career 9 = .ok (.goto 10, 3) := by decide +kernel
theorem dX8_career_12 : decode cX8_career 12 = .ok (.iload_n 2, 1) := by decide +kernel
theorem dX8_career_13 : decode cX8_career 13 = .ok (.iconst 0, 1) := by decide +kernel
theorem dX8_career_14 : decode cX8_career 14 = .ok (.bipush 60, 2) := by decide +kernel
theorem dX8_career_16 : decode cX8_career 16 = .ok (.invokestatic 70, 3) := by decide +kernel
theorem dX8_career_19 : decode cX8_career 19 = .ok (.istore_n 3, 1) := by decide +kernel
theorem dX8_career_20 : decode cX8_career 20 = .ok (.iload_n 3, 1) := by decide +kernel
theorem dX8_career_21 : decode cX8_career 21 = .ok (.ifCond .eq 9, 3) := by decide +kernel
theorem dX8_career_24 : decode cX8_career 24 = .ok (.aload_n 0, 1) := by decide +kernel
theorem dX8_career_25 : decode cX8_career 25 = .ok (.iload_n 3, 1) := by decide +kernel
theorem dX8_career_26 : decode cX8_career 26 = .ok (.invokevirtual 77, 3) := by decide +kernel
theorem dX8_career_29 : decode cX8_career 29 = .ok (.ireturn, 1) := by decide +kernel
theorem dX8_career_30 : decode cX8_career 30 = .ok (.aload_n 0, 1) := by decide +kernel
theorem dX8_career_31 : decode cX8_career 31 = .ok (.getfield 28, 3) := by decide +kernel
theorem dX8_career_34 : decode cX8_career 34 = .ok (.iload_n 1, 1) := by decide +kernel
theorem dX8_career_35 : decode cX8_career 35 = .ok (.iaload, 1) := by decide +kernel
theorem dX8_career_36 : decode cX8_career 36 = .ok (.istore 4, 2) := by decide +kernel
theorem dX8_career_38 : decode cX8_career 38 = .ok (.iconst 0, 1) := by decide +kernel
theorem dX8_career_39 : decode cX8_career 39 = .ok (.istore 5, 2) := by decide +kernel
theorem dX8_career_41 : decode cX8_career 41 = .ok (.iconst 0, 1) := by decide +kernel
theorem dX8_career_42 : decode cX8_career 42 = .ok (.istore 6, 2) := by decide +kernel
theorem dX8_career_44 : decode cX8_career 44 = .ok (.iload 6, 2) := by decide +kernel
theorem dX8_career_46 : decode cX8_career 46 = .ok (.iload_n 2, 1) := by decide +kernel
theorem dX8_career_47 : decode cX8_career 47 = .ok (.if_icmp .ge 66, 3) := by decide +kernel
theorem dX8_career_50 : decode cX8_career 50 = .ok (.aload_n 0, 1) := by decide +kernel
theorem dX8_career_51 : decode cX8_career 51 = .ok (.getfield 64, 3) := by decide +kernel
theorem dX8_career_54 : decode cX8_career 54 = .ok (.ifCond .le 59, 3) := by decide +kernel
theorem dX8_career_57 : decode cX8_career 57 = .ok (.iload 5, 2) := by decide +kernel
theorem dX8_career_59 : decode cX8_career 59 = .ok (.aload_n 0, 1) := by decide +kernel
theorem dX8_career_60 : decode cX8_career 60 = .ok (.iload_n 1, 1) := by decide +kernel
theorem dX8_career_61 : decode cX8_career 61 = .ok (.iload 6, 2) := by decide +kernel
theorem dX8_career_63 : decode cX8_career 63 = .ok (.aload_n 0, 1) := by decide +kernel
theorem dX8_career_64 : decode cX8_career 64 = .ok (.getfield 64, 3) := by decide +kernel
theorem dX8_career_67 : decode cX8_career 67 = .ok (.irem, 1) := by decide +kernel
theorem dX8_career_68 : decode cX8_career 68 = .ok (.aload_n 0, 1) := by decide +kernel
theorem dX8_career_69 : decode cX8_career 69 = .ok (.getfield 52, 3) := by decide +kernel
theorem dX8_career_72 : decode cX8_career 72 = .ok (.invokevirtual 185, 3) := by decide +kernel
theorem dX8_career_75 : decode cX8_career 75 = .ok (.ifCond .eq 7, 3) := by decide +kernel
theorem dX8_career_78 : decode cX8_career 78 = .ok (.iconst 1, 1) := by decide +kernel
theorem dX8_career_79 : decode cX8_career 79 = .ok (.goto 4, 3) := by decide +kernel
theorem dX8_career_82 : decode cX8_career 82 = .ok (.iconst 0, 1) := by decide +kernel
theorem dX8_career_83 : decode cX8_career 83 = .ok (.iadd, 1) := by decide +kernel
theorem dX8_career_84 : decode cX8_career 84 = .ok (.istore 5, 2) := by decide +kernel
theorem dX8_career_86 : decode cX8_career 86 = .ok (.aload_n 0, 1) := by decide +kernel
theorem dX8_career_87 : decode cX8_career 87 = .ok (.getfield 28, 3) := by decide +kernel
theorem dX8_career_90 : decode cX8_career 90 = .ok (.iload_n 1, 1) := by decide +kernel
theorem dX8_career_91 : decode cX8_career 91 = .ok (.dup2, 1) := by decide +kernel
theorem dX8_career_92 : decode cX8_career 92 = .ok (.iaload, 1) := by decide +kernel
theorem dX8_career_93 : decode cX8_career 93 = .ok (.aload_n 0, 1) := by decide +kernel
theorem dX8_career_94 : decode cX8_career 94 = .ok (.getfield 22, 3) := by decide +kernel
theorem dX8_career_97 : decode cX8_career 97 = .ok (.iload 6, 2) := by decide +kernel
theorem dX8_career_99 : decode cX8_career 99 = .ok (.aload_n 0, 1) := by decide +kernel
theorem dX8_career_100 : decode cX8_career 100 = .ok (.getfield 64, 3) := by decide +kernel
theorem dX8_career_103 : decode cX8_career 103 = .ok (.irem, 1) := by decide +kernel
theorem dX8_career_104 : decode cX8_career 104 = .ok (.iaload, 1) := by decide +kernel
theorem dX8_career_105 : decode cX8_career 105 = .ok (.ior, 1) := by decide +kernel
theorem dX8_career_106 : decode cX8_career 106 = .ok (.iastore, 1) := by decide +kernel
theorem dX8_career_107 : decode cX8_career 107 = .ok (.iinc 6 1, 3) := by decide +kernel
theorem dX8_career_110 : decode cX8_career 110 = .ok (.goto (-66), 3) := by decide +kernel
theorem dX8_career_113 : decode cX8_career 113 = .ok (.aload_n 0, 1) := by decide +kernel
theorem dX8_career_114 : decode cX8_career 114 = .ok (.getfield 28, 3) := by decide +kernel
theorem dX8_career_117 : decode cX8_career 117 = .ok (.iload_n 1, 1) := by decide +kernel
theorem dX8_career_118 : decode cX8_career 118 = .ok (.iload 4, 2) := by decide +kernel
theorem dX8_career_120 : decode cX8_career 120 = .ok (.iastore, 1) := by decide +kernel
theorem dX8_career_121 : decode cX8_career 121 = .ok (.iload 5, 2) := by decide +kernel
theorem dX8_career_123 : decode cX8_career 123 = .ok (.ireturn, 1) := by decide +kernel
theorem dX8_toughest_0 : decode cX8_toughest 0 = .ok (.aload_n 0, 1) := by decide +kernel
theorem dX8_toughest_1 : decode cX8_toughest 1 = .ok (.iload_n 1, 1) := by decide +kernel
theorem dX8_toughest_2 : decode cX8_toughest 2 = .ok (.invokevirtual 120, 3) := by decide +kernel
theorem dX8_toughest_5 : decode cX8_toughest 5 = .ok (.ifCond .ne 9, 3) := by decide +kernel
theorem dX8_toughest_8 : decode cX8_toughest 8 = .ok (.aload_n 0, 1) := by decide +kernel
theorem dX8_toughest_9 : decode cX8_toughest 9 = .ok (.iconst (-1), 1) := by decide +kernel
theorem dX8_toughest_10 : decode cX8_toughest 10 = .ok (.invokevirtual 77, 3) := by decide +kernel
theorem dX8_toughest_13 : decode cX8_toughest 13 = .ok (.ireturn, 1) := by decide +kernel
theorem dX8_toughest_14 : decode cX8_toughest 14 = .ok (.iconst 0, 1) := by decide +kernel
theorem dX8_toughest_15 : decode cX8_toughest 15 = .ok (.istore_n 2, 1) := by decide +kernel
theorem dX8_toughest_16 : decode cX8_toughest 16 = .ok (.iconst 1, 1) := by decide +kernel
theorem dX8_toughest_17 : decode cX8_toughest 17 = .ok (.istore_n 3, 1) := by decide +kernel
theorem dX8_toughest_18 : decode cX8_toughest 18 = .ok (.iload_n 3, 1) := by decide +kernel
theorem dX8_toughest_19 : decode cX8_toughest 19 = .ok (.bipush 24, 2) := by decide +kernel
theorem dX8_toughest_21 : decode cX8_toughest 21 = .ok (.if_icmp .ge 40, 3) := by decide +kernel
theorem dX8_toughest_24 : decode cX8_toughest 24 = .ok (.aload_n 0, 1) := by decide +kernel
theorem dX8_toughest_25 : decode cX8_toughest 25 = .ok (.aload_n 0, 1) := by decide +kernel
theorem dX8_toughest_26 : decode cX8_toughest 26 = .ok (.getfield 22, 3) := by decide +kernel
theorem dX8_toughest_29 : decode cX8_toughest 29 = .ok (.iload_n 1, 1) := by decide +kernel
theorem dX8_toughest_30 : decode cX8_toughest 30 = .ok (.iaload, 1) := by decide +kernel
theorem dX8_toughest_31 : decode cX8_toughest 31 = .ok (.iload_n 3, 1) := by decide +kernel
theorem dX8_toughest_32 : decode cX8_toughest 32 = .ok (.invokevirtual 197, 3) := by decide +kernel
theorem dX8_toughest_35 : decode cX8_toughest 35 = .ok (.aload_n 0, 1) := by decide +kernel
theorem dX8_toughest_36 : decode cX8_toughest 36 = .ok (.aload_n 0, 1) := by decide +kernel
theorem dX8_toughest_37 : decode cX8_toughest 37 = .ok (.getfield 22, 3) := by decide +kernel
theorem dX8_toughest_40 : decode cX8_toughest 40 = .ok (.iload_n 1, 1) := by decide +kernel
theorem dX8_toughest_41 : decode cX8_toughest 41 = .ok (.iaload, 1) := by decide +kernel
theorem dX8_toughest_42 : decode cX8_toughest 42 = .ok (.iload_n 2, 1) := by decide +kernel
theorem dX8_toughest_43 : decode cX8_toughest 43 = .ok (.invokevirtual 197, 3) := by decide +kernel
theorem dX8_toughest_46 : decode cX8_toughest 46 = .ok (.if_icmp .le 7, 3) := by decide +kernel
theorem dX8_toughest_49 : decode cX8_toughest 49 = .ok (.iload_n 3, 1) := by decide +kernel
theorem dX8_toughest_50 : decode cX8_toughest 50 = .ok (.goto 4, 3) := by decide +kernel
theorem dX8_toughest_53 : decode cX8_toughest 53 = .ok (.iload_n 2, 1) := by decide +kernel
theorem dX8_toughest_54 : decode cX8_toughest 54 = .ok (.istore_n 2, 1) := by decide +kernel
theorem dX8_toughest_55 : decode cX8_toughest 55 = .ok (.iinc 3 1, 3) := by decide +kernel
theorem dX8_toughest_58 : decode cX8_toughest 58 = .ok (.goto (-40), 3) := by decide +kernel
theorem dX8_toughest_61 : decode cX8_toughest 61 = .ok (.iload_n 2, 1) := by decide +kernel
theorem dX8_toughest_62 : decode cX8_toughest 62 = .ok (.ireturn, 1) := by decide +kernel
theorem dX8_equal_0 : decode cX8_equal 0 = .ok (.iconst 0, 1) := by decide +kernel
theorem dX8_equal_1 : decode cX8_equal 1 = .ok (.istore_n 1, 1) := by decide +kernel
theorem dX8_equal_2 : decode cX8_equal 2 = .ok (.iconst 0, 1) := by decide +kernel
theorem dX8_equal_3 : decode cX8_equal 3 = .ok (.istore_n 2, 1) := by decide +kernel
theorem dX8_equal_4 : decode cX8_equal 4 = .ok (.iload_n 2, 1) := by decide +kernel
theorem dX8_equal_5 : decode cX8_equal 5 = .ok (.aload_n 0, 1) := by decide +kernel
theorem dX8_equal_6 : decode cX8_equal 6 = .ok (.getfield 67, 3) := by decide +kernel
theorem dX8_equal_9 : decode cX8_equal 9 = .ok (.if_icmp .ge 56, 3) := by decide +kernel
theorem dX8_equal_12 : decode cX8_equal 12 = .ok (.iload_n 2, 1) := by decide +kernel
theorem dX8_equal_13 : decode cX8_equal 13 = .ok (.iconst 1, 1) := by decide +kernel
theorem dX8_equal_14 : decode cX8_equal 14 = .ok (.iadd, 1) := by decide +kernel
theorem dX8_equal_15 : decode cX8_equal 15 = .ok (.istore_n 3, 1) := by decide +kernel
theorem dX8_equal_16 : decode cX8_equal 16 = .ok (.iload_n 3, 1) := by decide +kernel
theorem dX8_equal_17 : decode cX8_equal 17 = .ok (.aload_n 0, 1) := by decide +kernel
theorem dX8_equal_18 : decode cX8_equal 18 = .ok (.getfield 67, 3) := by decide +kernel
theorem dX8_equal_21 : decode cX8_equal 21 = .ok (.if_icmp .ge 38, 3) := by decide +kernel
theorem dX8_equal_24 : decode cX8_equal 24 = .ok (.iload_n 1, 1) := by decide +kernel
theorem dX8_equal_25 : decode cX8_equal 25 = .ok (.aload_n 0, 1) := by decide +kernel
theorem dX8_equal_26 : decode cX8_equal 26 = .ok (.iload_n 2, 1) := by decide +kernel
theorem dX8_equal_27 : decode cX8_equal 27 = .ok (.aload_n 0, 1) := by decide +kernel
theorem dX8_equal_28 : decode cX8_equal 28 = .ok (.getfield 52, 3) := by decide +kernel
theorem dX8_equal_31 : decode cX8_equal 31 = .ok (.invokevirtual 209, 3) := by decide +kernel
theorem dX8_equal_34 : decode cX8_equal 34 = .ok (.aload_n 0, 1) := by decide +kernel
theorem dX8_equal_35 : decode cX8_equal 35 = .ok (.iload_n 3, 1) := by decide +kernel
theorem dX8_equal_36 : decode cX8_equal 36 = .ok (.aload_n 0, 1) := by decide +kernel
theorem dX8_equal_37 : decode cX8_equal 37 = .ok (.getfield 52, 3) := by decide +kernel
theorem dX8_equal_40 : decode cX8_equal 40 = .ok (.invokevirtual 209, 3) := by decide +kernel
theorem dX8_equal_43 : decode cX8_equal 43 = .ok (.if_icmp .ne 7, 3) := by decide +kernel
theorem dX8_equal_46 : decode cX8_equal 46 = .ok (.iconst 1, 1) := by decide +kernel
theorem dX8_equal_47 : decode cX8_equal 47 = .ok (.goto 4, 3) := by decide +kernel
theorem dX8_equal_50 : decode cX8_equal 50 = .ok (.iconst 0, 1) := by decide +kernel
theorem dX8_equal_51 : decode cX8_equal 51 = .ok (.iadd, 1) := by decide +kernel
theorem dX8_equal_52 : decode cX8_equal 52 = .ok (.istore_n 1, 1) := by decide +kernel
theorem dX8_equal_53 : decode cX8_equal 53 = .ok (.iinc 3 1, 3) := by decide +kernel
theorem dX8_equal_56 : decode cX8_equal 56 = .ok (.goto (-40), 3) := by decide +kernel
theorem dX8_equal_59 : decode cX8_equal 59 = .ok (.iinc 2 1, 3) := by decide +kernel
theorem dX8_equal_62 : decode cX8_equal 62 = .ok (.goto (-58), 3) := by decide +kernel
theorem dX8_equal_65 : decode cX8_equal 65 = .ok (.iload_n 1, 1) := by decide +kernel
theorem dX8_equal_66 : decode cX8_equal 66 = .ok (.ireturn, 1) := by decide +kernel
theorem dX8_longest_0 : decode cX8_longest 0 = .ok (.iload_n 1, 1) := by decide +kernel
theorem dX8_longest_1 : decode cX8_longest 1 = .ok (.iconst 0, 1) := by decide +kernel
theorem dX8_longest_2 : decode cX8_longest 2 = .ok (.iconst 1, 1) := by decide +kernel
theorem dX8_longest_3 : decode cX8_longest 3 = .ok (.invokestatic 88, 3) := by decide +kernel
theorem dX8_longest_6 : decode cX8_longest 6 = .ok (.ifCond .ne 10, 3) := by decide +kernel
theorem dX8_longest_9 : decode cX8_longest 9 = .ok (.aload_n 0, 1) := by decide +kernel
theorem dX8_longest_10 : decode cX8_longest 10 = .ok (.bipush (-2), 2) := by decide +kernel
theorem dX8_longest_12 : decode cX8_longest 12 = .ok (.invokevirtual 77, 3) := by decide +kernel
theorem dX8_longest_15 : decode cX8_longest 15 = .ok (.ireturn, 1) := by decide +kernel
theorem dX8_longest_16 : decode cX8_longest 16 = .ok (.bipush (-9), 2) := by decide +kernel
theorem dX8_longest_18 : decode cX8_longest 18 = .ok (.istore_n 2, 1) := by decide +kernel
theorem dX8_longest_19 : decode cX8_longest 19 = .ok (.iconst 0, 1) := by decide +kernel
theorem dX8_longest_20 : decode cX8_longest 20 = .ok (.istore_n 3, 1) := by decide +kernel
theorem dX8_longest_21 : decode cX8_longest 21 = .ok (.iload_n 3, 1) := by decide +kernel
theorem dX8_longest_22 : decode cX8_longest 22 = .ok (.aload_n 0, 1) := by decide +kernel
theorem dX8_longest_23 : decode cX8_longest 23 = .ok (.getfield 64, 3) := by decide +kernel
theorem dX8_longest_26 : decode cX8_longest 26 = .ok (.if_icmp .ge 42, 3) := by decide +kernel
theorem dX8_longest_29 : decode cX8_longest 29 = .ok (.iload_n 2, 1) := by decide +kernel
theorem dX8_longest_30 : decode cX8_longest 30 = .ok (.ifCond .lt 26, 3) := by decide +kernel
theorem dX8_longest_33 : decode cX8_longest 33 = .ok (.aload_n 0, 1) := by decide +kernel
theorem dX8_longest_34 : decode cX8_longest 34 = .ok (.aload_n 0, 1) := by decide +kernel
theorem dX8_longest_35 : decode cX8_longest 35 = .ok (.getfield 22, 3) := by decide +kernel
theorem dX8_longest_38 : decode cX8_longest 38 = .ok (.iload_n 3, 1) := by decide +kernel
theorem dX8_longest_39 : decode cX8_longest 39 = .ok (.iaload, 1) := by decide +kernel
theorem dX8_longest_40 : decode cX8_longest 40 = .ok (.invokevirtual 194, 3) := by decide +kernel
theorem dX8_longest_43 : decode cX8_longest 43 = .ok (.aload_n 0, 1) := by decide +kernel
theorem dX8_longest_44 : decode cX8_longest 44 = .ok (.aload_n 0, 1) := by decide +kernel
theorem dX8_longest_45 : decode cX8_longest 45 = .ok (.getfield 22, 3) := by decide +kernel
theorem dX8_longest_48 : decode cX8_longest 48 = .ok (.iload_n 2, 1) := by decide +kernel
theorem dX8_longest_49 : decode cX8_longest 49 = .ok (.iaload, 1) := by decide +kernel
theorem dX8_longest_50 : decode cX8_longest 50 = .ok (.invokevirtual 194, 3) := by decide +kernel
theorem dX8_longest_53 : decode cX8_longest 53 = .ok (.if_icmp .le 7, 3) := by decide +kernel
theorem dX8_longest_56 : decode cX8_longest 56 = .ok (.iload_n 3, 1) := by decide +kernel
theorem dX8_longest_57 : decode cX8_longest 57 = .ok (.goto 4, 3) := by decide +kernel
theorem dX8_longest_60 : decode cX8_longest 60 = .ok (.iload_n 2, 1) := by decide +kernel
theorem dX8_longest_61 : decode cX8_longest 61 = .ok (.istore_n 2, 1) := by decide +kernel
theorem dX8_longest_62 : decode cX8_longest 62 = .ok (.iinc 3 1, 3) := by decide +kernel
theorem dX8_longest_65 : decode cX8_longest 65 = .ok (.goto (-44), 3) := by decide +kernel
theorem dX8_longest_68 : decode cX8_longest 68 = .ok (.iload_n 1, 1) := by decide +kernel
theorem dX8_longest_69 : decode cX8_longest 69 = .ok (.ifCond .eq 7, 3) := by decide +kernel
theorem dX8_longest_72 : decode cX8_longest 72 = .ok (.iload_n 2, 1) := by decide +kernel
theorem dX8_longest_73 : decode cX8_longest 73 = .ok (.ifCond .ge 7, 3) := by decide +kernel
theorem dX8_longest_76 : decode cX8_longest 76 = .ok (.iload_n 2, 1) := by decide +kernel
theorem dX8_longest_77 : decode cX8_longest 77 = .ok (.goto 13, 3) := by decide +kernel
theorem dX8_longest_80 : decode cX8_longest 80 = .ok (.aload_n 0, 1) := by decide +kernel
theorem dX8_longest_81 : decode cX8_longest 81 = .ok (.aload_n 0, 1) := by decide +kernel
theorem dX8_longest_82 : decode cX8_longest 82 = .ok (.getfield 22, 3) := by decide +kernel
theorem dX8_longest_85 : decode cX8_longest 85 = .ok (.iload_n 2, 1) := by decide +kernel
theorem dX8_longest_86 : decode cX8_longest 86 = .ok (.iaload, 1) := by decide +kernel
theorem dX8_longest_87 : decode cX8_longest 87 = .ok (.invokevirtual 194, 3) := by decide +kernel
theorem dX8_longest_90 : decode cX8_longest 90 = .ok (.ireturn, 1) := by decide +kernel
theorem dX8_row_0 : decode cX8_row 0 = .ok (.iload_n 1, 1) := by decide +kernel
theorem dX8_row_1 : decode cX8_row 1 = .ok (.iconst 0, 1) := by decide +kernel
theorem dX8_row_2 : decode cX8_row 2 = .ok (.bipush 99, 2) := by decide +kernel
theorem dX8_row_4 : decode cX8_row 4 = .ok (.invokestatic 70, 3) := by decide +kernel
theorem dX8_row_7 : decode cX8_row 7 = .ok (.istore_n 2, 1) := by decide +kernel
theorem dX8_row_8 : decode cX8_row 8 = .ok (.iload_n 2, 1) := by decide +kernel
theorem dX8_row_9 : decode cX8_row 9 = .ok (.ifCond .ne 15, 3) := by decide +kernel
theorem dX8_row_12 : decode cX8_row 12 = .ok (.aload_n 0, 1) := by decide +kernel
theorem dX8_row_13 : decode cX8_row 13 = .ok (.getfield 240, 3) := by decide +kernel
theorem dX8_row_16 : decode cX8_row 16 = .ok (.bipush 12, 2) := by decide +kernel
theorem dX8_row_18 : decode cX8_row 18 = .ok (.if_icmp .ne 6, 3) := by decide +kernel
theorem dX8_row_21 : decode cX8_row 21 = .ok (.bipush (-6), 2) := by decide +kernel
theorem dX8_row_23 : decode cX8_row 23 = .ok (.istore_n 2, 1) := by decide +kernel
theorem dX8_row_24 : decode cX8_row 24 = .ok (.iload_n 2, 1) := by decide +kernel
theorem dX8_row_25 : decode cX8_row 25 = .ok (.ifCond .eq 9, 3) := by decide +kernel
theorem dX8_row_28 : decode cX8_row 28 = .ok (.aload_n 0, 1) := by decide +kernel
theorem dX8_row_29 : decode cX8_row 29 = .ok (.iload_n 2, 1) := by decide +kernel
theorem dX8_row_30 : decode cX8_row 30 = .ok (.invokevirtual 77, 3) := by decide +kernel
theorem dX8_row_33 : decode cX8_row 33 = .ok (.ireturn, 1) := by decide +kernel
theorem dX8_row_34 : decode cX8_row 34 = .ok (.aload_n 0, 1) := by decide +kernel
theorem dX8_row_35 : decode cX8_row 35 = .ok (.getfield 46, 3) := by decide +kernel
theorem dX8_row_38 : decode cX8_row 38 = .ok (.aload_n 0, 1) := by decide +kernel
theorem dX8_row_39 : decode cX8_row 39 = .ok (.getfield 240, 3) := by decide +kernel
theorem dX8_row_42 : decode cX8_row 42 = .ok (.iload_n 1, 1) := by decide +kernel
theorem dX8_row_43 : decode cX8_row 43 = .ok (.iastore, 1) := by decide +kernel
theorem dX8_row_44 : decode cX8_row 44 = .ok (.aload_n 0, 1) := by decide +kernel
theorem dX8_row_45 : decode cX8_row 45 = .ok (.dup, 1) := by decide +kernel
theorem dX8_row_46 : decode cX8_row 46 = .ok (.getfield 240, 3) := by decide +kernel
theorem dX8_row_49 : decode cX8_row 49 = .ok (.iconst 1, 1) := by decide +kernel
theorem dX8_row_50 : decode cX8_row 50 = .ok (.iadd, 1) := by decide +kernel
theorem dX8_row_51 : decode cX8_row 51 = .ok (.putfield 240, 3) := by decide +kernel
theorem dX8_row_54 : decode cX8_row 54 = .ok (.aload_n 0, 1) := by decide +kernel
theorem dX8_row_55 : decode cX8_row 55 = .ok (.getfield 240, 3) := by decide +kernel
theorem dX8_row_58 : decode cX8_row 58 = .ok (.ireturn, 1) := by decide +kernel
theorem dX8_judge_0 : decode cX8_judge 0 = .ok (.aload_n 0, 1) := by decide +kernel
theorem dX8_judge_1 : decode cX8_judge 1 = .ok (.iload_n 1, 1) := by decide +kernel
theorem dX8_judge_2 : decode cX8_judge 2 = .ok (.invokevirtual 114, 3) := by decide +kernel
theorem dX8_judge_5 : decode cX8_judge 5 = .ok (.ifCond .ne 9, 3) := by decide +kernel
theorem dX8_judge_8 : decode cX8_judge 8 = .ok (.aload_n 0, 1) := by decide +kernel
theorem dX8_judge_9 : decode cX8_judge 9 = .ok (.iconst (-1), 1) := by decide +kernel
theorem dX8_judge_10 : decode cX8_judge 10 = .ok (.invokevirtual 77, 3) := by decide +kernel
theorem dX8_judge_13 : decode cX8_judge 13 = .ok (.ireturn, 1) := by decide +kernel
theorem dX8_judge_14 : decode cX8_judge 14 = .ok (.aload_n 0, 1) := by decide +kernel
theorem dX8_judge_15 : decode cX8_judge 15 = .ok (.getfield 240, 3) := by decide +kernel
theorem dX8_judge_18 : decode cX8_judge 18 = .ok (.istore_n 2, 1) := by decide +kernel
theorem dX8_judge_19 : decode cX8_judge 19 = .ok (.aload_n 0, 1) := by decide +kernel
theorem dX8_judge_20 : decode cX8_judge 20 = .ok (.iconst 0, 1) := by decide +kernel
theorem dX8_judge_21 : decode cX8_judge 21 = .ok (.putfield 240, 3) := by decide +kernel
theorem dX8_judge_24 : decode cX8_judge 24 = .ok (.iconst 0, 1) := by decide +kernel
theorem dX8_judge_25 : decode cX8_judge 25 = .ok (.istore_n 3, 1) := by decide +kernel
theorem dX8_judge_26 : decode cX8_judge 26 = .ok (.iload_n 3, 1) := by decide +kernel
theorem dX8_judge_27 : decode cX8_judge 27 = .ok (.iload_n 2, 1) := by decide +kernel
theorem dX8_judge_28 : decode cX8_judge 28 = .ok (.if_icmp .ge 38, 3) := by decide +kernel
theorem dX8_judge_31 : decode cX8_judge 31 = .ok (.iload_n 3, 1) := by decide +kernel
theorem dX8_judge_32 : decode cX8_judge 32 = .ok (.aload_n 0, 1) := by decide +kernel
theorem dX8_judge_33 : decode cX8_judge 33 = .ok (.getfield 61, 3) := by decide +kernel
theorem dX8_judge_36 : decode cX8_judge 36 = .ok (.if_icmp .ge 22, 3) := by decide +kernel
theorem dX8_judge_39 : decode cX8_judge 39 = .ok (.aload_n 0, 1) := by decide +kernel
theorem dX8_judge_40 : decode cX8_judge 40 = .ok (.iload_n 1, 1) := by decide +kernel
theorem dX8_judge_41 : decode cX8_judge 41 = .ok (.iload_n 3, 1) := by decide +kernel
theorem dX8_judge_42 : decode cX8_judge 42 = .ok (.aload_n 0, 1) := by decide +kernel
theorem dX8_judge_43 : decode cX8_judge 43 = .ok (.getfield 52, 3) := by decide +kernel
theorem dX8_judge_46 : decode cX8_judge 46 = .ok (.invokevirtual 176, 3) := by decide +kernel
theorem dX8_judge_49 : decode cX8_judge 49 = .ok (.aload_n 0, 1) := by decide +kernel
theorem dX8_judge_50 : decode cX8_judge 50 = .ok (.getfield 46, 3) := by decide +kernel
theorem dX8_judge_53 : decode cX8_judge 53 = .ok (.iload_n 3, 1) := by decide +kernel
theorem dX8_judge_54 : decode cX8_judge 54 = .ok (.iaload, 1) := by decide +kernel
theorem dX8_judge_55 : decode cX8_judge 55 = .ok (.if_icmp .eq 5, 3) := by decide +kernel
theorem dX8_judge_58 : decode cX8_judge 58 = .ok (.iload_n 3, 1) := by decide +kernel
theorem dX8_judge_59 : decode cX8_judge 59 = .ok (.ireturn, 1) := by decide +kernel
theorem dX8_judge_60 : decode cX8_judge 60 = .ok (.iinc 3 1, 3) := by decide +kernel
theorem dX8_judge_63 : decode cX8_judge 63 = .ok (.goto (-37), 3) := by decide +kernel
theorem dX8_judge_66 : decode cX8_judge 66 = .ok (.bipush (-9), 2) := by decide +kernel
theorem dX8_judge_68 : decode cX8_judge 68 = .ok (.ireturn, 1) := by decide +kernel
theorem dX8_clear_0 : decode cX8_clear 0 = .ok (.aload_n 0, 1) := by decide +kernel
theorem dX8_clear_1 : decode cX8_clear 1 = .ok (.getfield 240, 3) := by decide +kernel
theorem dX8_clear_4 : decode cX8_clear 4 = .ok (.istore_n 1, 1) := by decide +kernel
theorem dX8_clear_5 : decode cX8_clear 5 = .ok (.aload_n 0, 1) := by decide +kernel
theorem dX8_clear_6 : decode cX8_clear 6 = .ok (.iconst 0, 1) := by decide +kernel
theorem dX8_clear_7 : decode cX8_clear 7 = .ok (.putfield 240, 3) := by decide +kernel
theorem dX8_clear_10 : decode cX8_clear 10 = .ok (.iload_n 1, 1) := by decide +kernel
theorem dX8_clear_11 : decode cX8_clear 11 = .ok (.ireturn, 1) := by decide +kernel
theorem dX8_draw_0 : decode cX8_draw 0 = .ok (.aload_n 0, 1) := by decide +kernel
theorem dX8_draw_1 : decode cX8_draw 1 = .ok (.aload_n 0, 1) := by decide +kernel
theorem dX8_draw_2 : decode cX8_draw 2 = .ok (.getfield 282, 3) := by decide +kernel
theorem dX8_draw_5 : decode cX8_draw 5 = .ok (.ldc_w 285, 3) := by decide +kernel
theorem dX8_draw_8 : decode cX8_draw 8 = .ok (.imul, 1) := by decide +kernel
theorem dX8_draw_9 : decode cX8_draw 9 = .ok (.sipush 12345, 3) := by decide +kernel
theorem dX8_draw_12 : decode cX8_draw 12 = .ok (.iadd, 1) := by decide +kernel
theorem dX8_draw_13 : decode cX8_draw 13 = .ok (.putfield 282, 3) := by decide +kernel
theorem dX8_draw_16 : decode cX8_draw 16 = .ok (.aload_n 0, 1) := by decide +kernel
theorem dX8_draw_17 : decode cX8_draw 17 = .ok (.getfield 282, 3) := by decide +kernel
theorem dX8_draw_20 : decode cX8_draw 20 = .ok (.ldc_w 286, 3) := by decide +kernel
theorem dX8_draw_23 : decode cX8_draw 23 = .ok (.iand, 1) := by decide +kernel
theorem dX8_draw_24 : decode cX8_draw 24 = .ok (.ldc_w 287, 3) := by decide +kernel
theorem dX8_draw_27 : decode cX8_draw 27 = .ok (.idiv, 1) := by decide +kernel
theorem dX8_draw_28 : decode cX8_draw 28 = .ok (.iload_n 1, 1) := by decide +kernel
theorem dX8_draw_29 : decode cX8_draw 29 = .ok (.irem, 1) := by decide +kernel
theorem dX8_draw_30 : decode cX8_draw 30 = .ok (.ireturn, 1) := by decide +kernel
theorem dX8_lots_0 : decode cX8_lots 0 = .ok (.iload_n 1, 1) := by decide +kernel
theorem dX8_lots_1 : decode cX8_lots 1 = .ok (.iconst 1, 1) := by decide +kernel
theorem dX8_lots_2 : decode cX8_lots 2 = .ok (.bipush 20, 2) := by decide +kernel
theorem dX8_lots_4 : decode cX8_lots 4 = .ok (.invokestatic 70, 3) := by decide +kernel
theorem dX8_lots_7 : decode cX8_lots 7 = .ok (.istore 4, 2) := by decide +kernel
theorem dX8_lots_9 : decode cX8_lots 9 = .ok (.iload 4, 2) := by decide +kernel
theorem dX8_lots_11 : decode cX8_lots 11 = .ok (.ifCond .ne 16, 3) := by decide +kernel
theorem dX8_lots_14 : decode cX8_lots 14 = .ok (.iload_n 3, 1) := by decide +kernel
theorem dX8_lots_15 : decode cX8_lots 15 = .ok (.iconst 0, 1) := by decide +kernel
theorem dX8_lots_16 : decode cX8_lots 16 = .ok (.iconst 1, 1) := by decide +kernel
theorem dX8_lots_17 : decode cX8_lots 17 = .ok (.invokestatic 88, 3) := by decide +kernel
theorem dX8_lots_20 : decode cX8_lots 20 = .ok (.ifCond .ne 7, 3) := by decide +kernel
theorem dX8_lots_23 : decode cX8_lots 23 = .ok (.bipush (-2), 2) := by decide +kernel
theorem dX8_lots_25 : decode cX8_lots 25 = .ok (.istore 4, 2) := by decide +kernel
theorem dX8_lots_27 : decode cX8_lots 27 = .ok (.iload 4, 2) := by decide +kernel
theorem dX8_lots_29 : decode cX8_lots 29 = .ok (.ifCond .eq 10, 3) := by decide +kernel
theorem dX8_lots_32 : decode cX8_lots 32 = .ok (.aload_n 0, 1) := by decide +kernel
theorem dX8_lots_33 : decode cX8_lots 33 = .ok (.iload 4, 2) := by decide +kernel
theorem dX8_lots_35 : decode cX8_lots 35 = .ok (.invokevirtual 77, 3) := by decide +kernel
theorem dX8_lots_38 : decode cX8_lots 38 = .ok (.ireturn, 1) := by decide +kernel
theorem dX8_lots_39 : decode cX8_lots 39 = .ok (.aload_n 0, 1) := by decide +kernel
theorem dX8_lots_40 : decode cX8_lots 40 = .ok (.getfield 64, 3) := by decide +kernel
theorem dX8_lots_43 : decode cX8_lots 43 = .ok (.ifCond .ne 5, 3) := by decide +kernel
theorem dX8_lots_46 : decode cX8_lots 46 = .ok (.iconst 0, 1) := by decide +kernel
theorem dX8_lots_47 : decode cX8_lots 47 = .ok (.ireturn, 1) := by decide +kernel
theorem dX8_lots_48 : decode cX8_lots 48 = .ok (.aload_n 0, 1) := by decide +kernel
theorem dX8_lots_49 : decode cX8_lots 49 = .ok (.iload_n 2, 1) := by decide +kernel
theorem dX8_lots_50 : decode cX8_lots 50 = .ok (.putfield 282, 3) := by decide +kernel
theorem dX8_lots_53 : decode cX8_lots 53 = .ok (.iconst 0, 1) := by decide +kernel
theorem dX8_lots_54 : decode cX8_lots 54 = .ok (.istore 5, 2) := by decide +kernel
theorem dX8_lots_56 : decode cX8_lots 56 = .ok (.iconst 0, 1) := by decide +kernel
theorem dX8_lots_57 : decode cX8_lots 57 = .ok (.istore 6, 2) := by decide +kernel
theorem dX8_lots_59 : decode cX8_lots 59 = .ok (.iconst 0, 1) := by decide +kernel
theorem dX8_lots_60 : decode cX8_lots 60 = .ok (.istore 7, 2) := by decide +kernel
theorem dX8_lots_62 : decode cX8_lots 62 = .ok (.iload 7, 2) := by decide +kernel
theorem dX8_lots_64 : decode cX8_lots 64 = .ok (.iload_n 1, 1) := by decide +kernel
theorem dX8_lots_65 : decode cX8_lots 65 = .ok (.aload_n 0, 1) := by decide +kernel
theorem dX8_lots_66 : decode cX8_lots 66 = .ok (.getfield 67, 3) := by decide +kernel
theorem dX8_lots_69 : decode cX8_lots 69 = .ok (.imul, 1) := by decide +kernel
theorem dX8_lots_70 : decode cX8_lots 70 = .ok (.if_icmp .ge 80, 3) := by decide +kernel
theorem dX8_lots_73 : decode cX8_lots 73 = .ok (.aload_n 0, 1) := by decide +kernel
theorem dX8_lots_74 : decode cX8_lots 74 = .ok (.bipush 24, 2) := by decide +kernel
theorem dX8_lots_76 : decode cX8_lots 76 = .ok (.invokevirtual 288, 3) := by decide +kernel
theorem dX8_lots_79 : decode cX8_lots 79 = .ok (.istore 8, 2) := by decide +kernel
theorem dX8_lots_81 : decode cX8_lots 81 = .ok (.aload_n 0, 1) := by decide +kernel
theorem dX8_lots_82 : decode cX8_lots 82 = .ok (.aload_n 0, 1) := by decide +kernel
theorem dX8_lots_83 : decode cX8_lots 83 = .ok (.getfield 64, 3) := by decide +kernel
theorem dX8_lots_86 : decode cX8_lots 86 = .ok (.invokevirtual 288, 3) := by decide +kernel
theorem dX8_lots_89 : decode cX8_lots 89 = .ok (.istore 9, 2) := by decide +kernel
theorem dX8_lots_91 : decode cX8_lots 91 = .ok (.iload 5, 2) := by decide +kernel
theorem dX8_lots_93 : decode cX8_lots 93 = .ok (.aload_n 0, 1) := by decide +kernel
theorem dX8_lots_94 : decode cX8_lots 94 = .ok (.iload 7, 2) := by decide +kernel
theorem dX8_lots_96 : decode cX8_lots 96 = .ok (.aload_n 0, 1) := by decide +kernel
theorem dX8_lots_97 : decode cX8_lots 97 = .ok (.getfield 67, 3) := by decide +kernel
theorem dX8_lots_100 : decode cX8_lots 100 = .ok (.irem, 1) := by decide +kernel
theorem dX8_lots_101 : decode cX8_lots 101 = .ok (.iload 9, 2) := by decide +kernel
theorem dX8_lots_103 : decode cX8_lots 103 = .ok (.iload 8, 2) := by decide +kernel
theorem dX8_lots_105 : decode cX8_lots 105 = .ok (.invokevirtual 185, 3) := by decide +kernel
theorem dX8_lots_108 : decode cX8_lots 108 = .ok (.ifCond .eq 7, 3) := by decide +kernel
theorem dX8_lots_111 : decode cX8_lots 111 = .ok (.iconst 1, 1) := by decide +kernel
theorem dX8_lots_112 : decode cX8_lots 112 = .ok (.goto 4, 3) := by decide +kernel
theorem dX8_lots_115 : decode cX8_lots 115 = .ok (.iconst 0, 1) := by decide +kernel
theorem dX8_lots_116 : decode cX8_lots 116 = .ok (.iadd, 1) := by decide +kernel
theorem dX8_lots_117 : decode cX8_lots 117 = .ok (.istore 5, 2) := by decide +kernel
theorem dX8_lots_119 : decode cX8_lots 119 = .ok (.iload 6, 2) := by decide +kernel
theorem dX8_lots_121 : decode cX8_lots 121 = .ok (.aload_n 0, 1) := by decide +kernel
theorem dX8_lots_122 : decode cX8_lots 122 = .ok (.iload 7, 2) := by decide +kernel
theorem dX8_lots_124 : decode cX8_lots 124 = .ok (.aload_n 0, 1) := by decide +kernel
theorem dX8_lots_125 : decode cX8_lots 125 = .ok (.getfield 67, 3) := by decide +kernel
theorem dX8_lots_128 : decode cX8_lots 128 = .ok (.irem, 1) := by decide +kernel
theorem dX8_lots_129 : decode cX8_lots 129 = .ok (.aload_n 0, 1) := by decide +kernel
theorem dX8_lots_130 : decode cX8_lots 130 = .ok (.getfield 22, 3) := by decide +kernel
theorem dX8_lots_133 : decode cX8_lots 133 = .ok (.iload 9, 2) := by decide +kernel
theorem dX8_lots_135 : decode cX8_lots 135 = .ok (.iaload, 1) := by decide +kernel
theorem dX8_lots_136 : decode cX8_lots 136 = .ok (.iload 8, 2) := by decide +kernel
theorem dX8_lots_138 : decode cX8_lots 138 = .ok (.invokevirtual 179, 3) := by decide +kernel
theorem dX8_lots_141 : decode cX8_lots 141 = .ok (.iadd, 1) := by decide +kernel
theorem dX8_lots_142 : decode cX8_lots 142 = .ok (.istore 6, 2) := by decide +kernel
theorem dX8_lots_144 : decode cX8_lots 144 = .ok (.iinc 7 1, 3) := by decide +kernel
theorem dX8_lots_147 : decode cX8_lots 147 = .ok (.goto (-85), 3) := by decide +kernel
theorem dX8_lots_150 : decode cX8_lots 150 = .ok (.iload_n 3, 1) := by decide +kernel
theorem dX8_lots_151 : decode cX8_lots 151 = .ok (.ifCond .ne 8, 3) := by decide +kernel
theorem dX8_lots_154 : decode cX8_lots 154 = .ok (.iload 5, 2) := by decide +kernel
theorem dX8_lots_156 : decode cX8_lots 156 = .ok (.goto 5, 3) := by decide +kernel
theorem dX8_lots_159 : decode cX8_lots 159 = .ok (.iload 6, 2) := by decide +kernel
theorem dX8_lots_161 : decode cX8_lots 161 = .ok (.ireturn, 1) := by decide +kernel
theorem dX8_count_0 : decode cX8_count 0 = .ok (.iload_n 1, 1) := by decide +kernel
theorem dX8_count_1 : decode cX8_count 1 = .ok (.bipush 11, 2) := by decide +kernel
theorem dX8_count_3 : decode cX8_count 3 = .ok (.bipush 16, 2) := by decide +kernel
theorem dX8_count_5 : decode cX8_count 5 = .ok (.invokestatic 88, 3) := by decide +kernel
theorem dX8_count_8 : decode cX8_count 8 = .ok (.ifCond .eq 13, 3) := by decide +kernel
theorem dX8_count_11 : decode cX8_count 11 = .ok (.aload_n 0, 1) := by decide +kernel
theorem dX8_count_12 : decode cX8_count 12 = .ok (.getfield 7, 3) := by decide +kernel
theorem dX8_count_15 : decode cX8_count 15 = .ok (.iload_n 1, 1) := by decide +kernel
theorem dX8_count_16 : decode cX8_count 16 = .ok (.bipush 10, 2) := by decide +kernel
theorem dX8_count_18 : decode cX8_count 18 = .ok (.isub, 1) := by decide +kernel
theorem dX8_count_19 : decode cX8_count 19 = .ok (.iaload, 1) := by decide +kernel
theorem dX8_count_20 : decode cX8_count 20 = .ok (.ireturn, 1) := by decide +kernel
theorem dX8_count_21 : decode cX8_count 21 = .ok (.iconst 0, 1) := by decide +kernel
theorem dX8_count_22 : decode cX8_count 22 = .ok (.istore_n 2, 1) := by decide +kernel
theorem dX8_count_23 : decode cX8_count 23 = .ok (.iload_n 1, 1) := by decide +kernel
theorem dX8_count_24 : decode cX8_count 24 = .ok (.tableswitch 131 0 9 #[56, 61, 66, 71, 76, 81, 86, 116, 121, 126], 56) := by decide +kernel
theorem dX8_count_80 : decode cX8_count 80 = .ok (.aload_n 0, 1) := by decide +kernel
theorem dX8_count_81 : decode cX8_count 81 = .ok (.getfield 61, 3) := by decide +kernel
theorem dX8_count_84 : decode cX8_count 84 = .ok (.ireturn, 1) := by decide +kernel
theorem dX8_count_85 : decode cX8_count 85 = .ok (.aload_n 0, 1) := by decide +kernel
theorem dX8_count_86 : decode cX8_count 86 = .ok (.getfield 64, 3) := by decide +kernel
theorem dX8_count_89 : decode cX8_count 89 = .ok (.ireturn, 1) := by decide +kernel
theorem dX8_count_90 : decode cX8_count 90 = .ok (.aload_n 0, 1) := by decide +kernel
theorem dX8_count_91 : decode cX8_count 91 = .ok (.getfield 67, 3) := by decide +kernel
theorem dX8_count_94 : decode cX8_count 94 = .ok (.ireturn, 1) := by decide +kernel
theorem dX8_count_95 : decode cX8_count 95 = .ok (.aload_n 0, 1) := by decide +kernel
theorem dX8_count_96 : decode cX8_count 96 = .ok (.getfield 52, 3) := by decide +kernel
theorem dX8_count_99 : decode cX8_count 99 = .ok (.ireturn, 1) := by decide +kernel
theorem dX8_count_100 : decode cX8_count 100 = .ok (.aload_n 0, 1) := by decide +kernel
theorem dX8_count_101 : decode cX8_count 101 = .ok (.getfield 56, 3) := by decide +kernel
theorem dX8_count_104 : decode cX8_count 104 = .ok (.ireturn, 1) := by decide +kernel
theorem dX8_count_105 : decode cX8_count 105 = .ok (.aload_n 0, 1) := by decide +kernel
theorem dX8_count_106 : decode cX8_count 106 = .ok (.getfield 129, 3) := by decide +kernel
theorem dX8_count_109 : decode cX8_count 109 = .ok (.ireturn, 1) := by decide +kernel
theorem dX8_count_110 : decode cX8_count 110 = .ok (.iconst 0, 1) := by decide +kernel
theorem dX8_count_111 : decode cX8_count 111 = .ok (.istore_n 3, 1) := by decide +kernel
theorem dX8_count_112 : decode cX8_count 112 = .ok (.iload_n 3, 1) := by decide +kernel
theorem dX8_count_113 : decode cX8_count 113 = .ok (.aload_n 0, 1) := by decide +kernel
theorem dX8_count_114 : decode cX8_count 114 = .ok (.getfield 67, 3) := by decide +kernel
theorem dX8_count_117 : decode cX8_count 117 = .ok (.if_icmp .ge 21, 3) := by decide +kernel
theorem dX8_count_120 : decode cX8_count 120 = .ok (.iload_n 2, 1) := by decide +kernel
theorem dX8_count_121 : decode cX8_count 121 = .ok (.aload_n 0, 1) := by decide +kernel
theorem dX8_count_122 : decode cX8_count 122 = .ok (.getfield 28, 3) := by decide +kernel
theorem dX8_count_125 : decode cX8_count 125 = .ok (.iload_n 3, 1) := by decide +kernel
theorem dX8_count_126 : decode cX8_count 126 = .ok (.iaload, 1) := by decide +kernel
theorem dX8_count_127 : decode cX8_count 127 = .ok (.invokestatic 212, 3) := by decide +kernel
theorem dX8_count_130 : decode cX8_count 130 = .ok (.iadd, 1) := by decide +kernel
theorem dX8_count_131 : decode cX8_count 131 = .ok (.istore_n 2, 1) := by decide +kernel
theorem dX8_count_132 : decode cX8_count 132 = .ok (.iinc 3 1, 3) := by decide +kernel
theorem dX8_count_135 : decode cX8_count 135 = .ok (.goto (-23), 3) := by decide +kernel
theorem dX8_count_138 : decode cX8_count 138 = .ok (.iload_n 2, 1) := by decide +kernel
theorem dX8_count_139 : decode cX8_count 139 = .ok (.ireturn, 1) := by decide +kernel
theorem dX8_count_140 : decode cX8_count 140 = .ok (.aload_n 0, 1) := by decide +kernel
theorem dX8_count_141 : decode cX8_count 141 = .ok (.getfield 74, 3) := by decide +kernel
theorem dX8_count_144 : decode cX8_count 144 = .ok (.ireturn, 1) := by decide +kernel
theorem dX8_count_145 : decode cX8_count 145 = .ok (.aload_n 0, 1) := by decide +kernel
theorem dX8_count_146 : decode cX8_count 146 = .ok (.getfield 240, 3) := by decide +kernel
theorem dX8_count_149 : decode cX8_count 149 = .ok (.ireturn, 1) := by decide +kernel
theorem dX8_count_150 : decode cX8_count 150 = .ok (.aload_n 0, 1) := by decide +kernel
theorem dX8_count_151 : decode cX8_count 151 = .ok (.getfield 149, 3) := by decide +kernel
theorem dX8_count_154 : decode cX8_count 154 = .ok (.ireturn, 1) := by decide +kernel
theorem dX8_count_155 : decode cX8_count 155 = .ok (.bipush (-9), 2) := by decide +kernel
theorem dX8_count_157 : decode cX8_count 157 = .ok (.ireturn, 1) := by decide +kernel
theorem dJ6_bitCount_0f7a4_0 : decode cJ6_bitCount_0f7a4 0 = .ok (.iload_n 0, 1) := by decide +kernel
theorem dJ6_bitCount_0f7a4_1 : decode cJ6_bitCount_0f7a4 1 = .ok (.iload_n 0, 1) := by decide +kernel
theorem dJ6_bitCount_0f7a4_2 : decode cJ6_bitCount_0f7a4 2 = .ok (.iconst 1, 1) := by decide +kernel
theorem dJ6_bitCount_0f7a4_3 : decode cJ6_bitCount_0f7a4 3 = .ok (.iushr, 1) := by decide +kernel
theorem dJ6_bitCount_0f7a4_4 : decode cJ6_bitCount_0f7a4 4 = .ok (.ldc_w 265, 3) := by decide +kernel
theorem dJ6_bitCount_0f7a4_7 : decode cJ6_bitCount_0f7a4 7 = .ok (.iand, 1) := by decide +kernel
theorem dJ6_bitCount_0f7a4_8 : decode cJ6_bitCount_0f7a4 8 = .ok (.isub, 1) := by decide +kernel
theorem dJ6_bitCount_0f7a4_9 : decode cJ6_bitCount_0f7a4 9 = .ok (.istore_n 0, 1) := by decide +kernel
theorem dJ6_bitCount_0f7a4_10 : decode cJ6_bitCount_0f7a4 10 = .ok (.iload_n 0, 1) := by decide +kernel
theorem dJ6_bitCount_0f7a4_11 : decode cJ6_bitCount_0f7a4 11 = .ok (.ldc_w 266, 3) := by decide +kernel
theorem dJ6_bitCount_0f7a4_14 : decode cJ6_bitCount_0f7a4 14 = .ok (.iand, 1) := by decide +kernel
theorem dJ6_bitCount_0f7a4_15 : decode cJ6_bitCount_0f7a4 15 = .ok (.iload_n 0, 1) := by decide +kernel
theorem dJ6_bitCount_0f7a4_16 : decode cJ6_bitCount_0f7a4 16 = .ok (.iconst 2, 1) := by decide +kernel
theorem dJ6_bitCount_0f7a4_17 : decode cJ6_bitCount_0f7a4 17 = .ok (.iushr, 1) := by decide +kernel
theorem dJ6_bitCount_0f7a4_18 : decode cJ6_bitCount_0f7a4 18 = .ok (.ldc_w 266, 3) := by decide +kernel
theorem dJ6_bitCount_0f7a4_21 : decode cJ6_bitCount_0f7a4 21 = .ok (.iand, 1) := by decide +kernel
theorem dJ6_bitCount_0f7a4_22 : decode cJ6_bitCount_0f7a4 22 = .ok (.iadd, 1) := by decide +kernel
theorem dJ6_bitCount_0f7a4_23 : decode cJ6_bitCount_0f7a4 23 = .ok (.istore_n 0, 1) := by decide +kernel
theorem dJ6_bitCount_0f7a4_24 : decode cJ6_bitCount_0f7a4 24 = .ok (.iload_n 0, 1) := by decide +kernel
theorem dJ6_bitCount_0f7a4_25 : decode cJ6_bitCount_0f7a4 25 = .ok (.iload_n 0, 1) := by decide +kernel
theorem dJ6_bitCount_0f7a4_26 : decode cJ6_bitCount_0f7a4 26 = .ok (.iconst 4, 1) := by decide +kernel
theorem dJ6_bitCount_0f7a4_27 : decode cJ6_bitCount_0f7a4 27 = .ok (.iushr, 1) := by decide +kernel
theorem dJ6_bitCount_0f7a4_28 : decode cJ6_bitCount_0f7a4 28 = .ok (.iadd, 1) := by decide +kernel
theorem dJ6_bitCount_0f7a4_29 : decode cJ6_bitCount_0f7a4 29 = .ok (.ldc_w 267, 3) := by decide +kernel
theorem dJ6_bitCount_0f7a4_32 : decode cJ6_bitCount_0f7a4 32 = .ok (.iand, 1) := by decide +kernel
theorem dJ6_bitCount_0f7a4_33 : decode cJ6_bitCount_0f7a4 33 = .ok (.istore_n 0, 1) := by decide +kernel
theorem dJ6_bitCount_0f7a4_34 : decode cJ6_bitCount_0f7a4 34 = .ok (.iload_n 0, 1) := by decide +kernel
theorem dJ6_bitCount_0f7a4_35 : decode cJ6_bitCount_0f7a4 35 = .ok (.iload_n 0, 1) := by decide +kernel
theorem dJ6_bitCount_0f7a4_36 : decode cJ6_bitCount_0f7a4 36 = .ok (.bipush 8, 2) := by decide +kernel
theorem dJ6_bitCount_0f7a4_38 : decode cJ6_bitCount_0f7a4 38 = .ok (.iushr, 1) := by decide +kernel
theorem dJ6_bitCount_0f7a4_39 : decode cJ6_bitCount_0f7a4 39 = .ok (.iadd, 1) := by decide +kernel
theorem dJ6_bitCount_0f7a4_40 : decode cJ6_bitCount_0f7a4 40 = .ok (.istore_n 0, 1) := by decide +kernel
theorem dJ6_bitCount_0f7a4_41 : decode cJ6_bitCount_0f7a4 41 = .ok (.iload_n 0, 1) := by decide +kernel
theorem dJ6_bitCount_0f7a4_42 : decode cJ6_bitCount_0f7a4 42 = .ok (.iload_n 0, 1) := by decide +kernel
theorem dJ6_bitCount_0f7a4_43 : decode cJ6_bitCount_0f7a4 43 = .ok (.bipush 16, 2) := by decide +kernel
theorem dJ6_bitCount_0f7a4_45 : decode cJ6_bitCount_0f7a4 45 = .ok (.iushr, 1) := by decide +kernel
theorem dJ6_bitCount_0f7a4_46 : decode cJ6_bitCount_0f7a4 46 = .ok (.iadd, 1) := by decide +kernel
theorem dJ6_bitCount_0f7a4_47 : decode cJ6_bitCount_0f7a4 47 = .ok (.istore_n 0, 1) := by decide +kernel
theorem dJ6_bitCount_0f7a4_48 : decode cJ6_bitCount_0f7a4 48 = .ok (.iload_n 0, 1) := by decide +kernel
theorem dJ6_bitCount_0f7a4_49 : decode cJ6_bitCount_0f7a4 49 = .ok (.bipush 63, 2) := by decide +kernel
theorem dJ6_bitCount_0f7a4_51 : decode cJ6_bitCount_0f7a4 51 = .ok (.iand, 1) := by decide +kernel
theorem dJ6_bitCount_0f7a4_52 : decode cJ6_bitCount_0f7a4 52 = .ok (.ireturn, 1) := by decide +kernel
theorem dJ9_abs_0f7a4_0 : decode cJ9_abs_0f7a4 0 = .ok (.iload_n 0, 1) := by decide +kernel
theorem dJ9_abs_0f7a4_1 : decode cJ9_abs_0f7a4 1 = .ok (.ifCond .ge 8, 3) := by decide +kernel
theorem dJ9_abs_0f7a4_4 : decode cJ9_abs_0f7a4 4 = .ok (.iload_n 0, 1) := by decide +kernel
theorem dJ9_abs_0f7a4_5 : decode cJ9_abs_0f7a4 5 = .ok (.ineg, 1) := by decide +kernel
theorem dJ9_abs_0f7a4_6 : decode cJ9_abs_0f7a4 6 = .ok (.goto 4, 3) := by decide +kernel
theorem dJ9_abs_0f7a4_9 : decode cJ9_abs_0f7a4 9 = .ok (.iload_n 0, 1) := by decide +kernel
theorem dJ9_abs_0f7a4_10 : decode cJ9_abs_0f7a4 10 = .ok (.ireturn, 1) := by decide +kernel
theorem dJ9_max_7cf53_0 : decode cJ9_max_7cf53 0 = .ok (.iload_n 0, 1) := by decide +kernel
theorem dJ9_max_7cf53_1 : decode cJ9_max_7cf53 1 = .ok (.iload_n 1, 1) := by decide +kernel
theorem dJ9_max_7cf53_2 : decode cJ9_max_7cf53 2 = .ok (.if_icmp .lt 7, 3) := by decide +kernel
theorem dJ9_max_7cf53_5 : decode cJ9_max_7cf53 5 = .ok (.iload_n 0, 1) := by decide +kernel
theorem dJ9_max_7cf53_6 : decode cJ9_max_7cf53 6 = .ok (.goto 4, 3) := by decide +kernel
theorem dJ9_max_7cf53_9 : decode cJ9_max_7cf53 9 = .ok (.iload_n 1, 1) := by decide +kernel
theorem dJ9_max_7cf53_10 : decode cJ9_max_7cf53 10 = .ok (.ireturn, 1) := by decide +kernel
theorem dJ9_min_7cf53_0 : decode cJ9_min_7cf53 0 = .ok (.iload_n 0, 1) := by decide +kernel
theorem dJ9_min_7cf53_1 : decode cJ9_min_7cf53 1 = .ok (.iload_n 1, 1) := by decide +kernel
theorem dJ9_min_7cf53_2 : decode cJ9_min_7cf53 2 = .ok (.if_icmp .gt 7, 3) := by decide +kernel
theorem dJ9_min_7cf53_5 : decode cJ9_min_7cf53 5 = .ok (.iload_n 0, 1) := by decide +kernel
theorem dJ9_min_7cf53_6 : decode cJ9_min_7cf53 6 = .ok (.goto 4, 3) := by decide +kernel
theorem dJ9_min_7cf53_9 : decode cJ9_min_7cf53 9 = .ok (.iload_n 1, 1) := by decide +kernel
theorem dJ9_min_7cf53_10 : decode cJ9_min_7cf53 10 = .ok (.ireturn, 1) := by decide +kernel
theorem dL_law_0 : decode cL_law 0 = .ok (.new 7, 3) := by decide +kernel
theorem dL_law_3 : decode cL_law 3 = .ok (.dup, 1) := by decide +kernel
theorem dL_law_4 : decode cL_law 4 = .ok (.invokespecial 9, 3) := by decide +kernel
theorem dL_law_7 : decode cL_law 7 = .ok (.astore_n 1, 1) := by decide +kernel
theorem dL_law_8 : decode cL_law 8 = .ok (.new 10, 3) := by decide +kernel
theorem dL_law_11 : decode cL_law 11 = .ok (.dup, 1) := by decide +kernel
theorem dL_law_12 : decode cL_law 12 = .ok (.invokespecial 12, 3) := by decide +kernel
theorem dL_law_15 : decode cL_law 15 = .ok (.astore_n 2, 1) := by decide +kernel
theorem dL_law_16 : decode cL_law 16 = .ok (.iconst 0, 1) := by decide +kernel
theorem dL_law_17 : decode cL_law 17 = .ok (.istore_n 3, 1) := by decide +kernel
theorem dL_law_18 : decode cL_law 18 = .ok (.iload_n 3, 1) := by decide +kernel
theorem dL_law_19 : decode cL_law 19 = .ok (.aload_n 0, 1) := by decide +kernel
theorem dL_law_20 : decode cL_law 20 = .ok (.arraylength, 1) := by decide +kernel
theorem dL_law_21 : decode cL_law 21 = .ok (.iconst 5, 1) := by decide +kernel
theorem dL_law_22 : decode cL_law 22 = .ok (.isub, 1) := by decide +kernel
theorem dL_law_23 : decode cL_law 23 = .ok (.if_icmp .gt 1575, 3) := by decide +kernel
theorem dL_law_26 : decode cL_law 26 = .ok (.aload_n 0, 1) := by decide +kernel
theorem dL_law_27 : decode cL_law 27 = .ok (.iload_n 3, 1) := by decide +kernel
theorem dL_law_28 : decode cL_law 28 = .ok (.iaload, 1) := by decide +kernel
theorem dL_law_29 : decode cL_law 29 = .ok (.bipush 63, 2) := by decide +kernel
theorem dL_law_31 : decode cL_law 31 = .ok (.iand, 1) := by decide +kernel
theorem dL_law_32 : decode cL_law 32 = .ok (.tableswitch 1560 0 45 #[200, 223, 236, 269, 302, 345, 368, 391, 424, 457, 490, 503, 516, 559, 612, 655, 698, 741, 785, 818, 831, 864, 897, 940, 953, 986, 1019, 1062, 1116, 1139, 1172, 1215, 1228, 1261, 1284, 1317, 1350, 1373, 1386, 1409, 1432, 1455, 1468, 1511, 1524, 1537], 200) := by decide +kernel
theorem dL_law_232 : decode cL_law 232 = .ok (.aload_n 1, 1) := by decide +kernel
theorem dL_law_233 : decode cL_law 233 = .ok (.aload_n 0, 1) := by decide +kernel
theorem dL_law_234 : decode cL_law 234 = .ok (.iload_n 3, 1) := by decide +kernel
theorem dL_law_235 : decode cL_law 235 = .ok (.iconst 1, 1) := by decide +kernel
theorem dL_law_236 : decode cL_law 236 = .ok (.iadd, 1) := by decide +kernel
theorem dL_law_237 : decode cL_law 237 = .ok (.iaload, 1) := by decide +kernel
theorem dL_law_238 : decode cL_law 238 = .ok (.invokevirtual 13, 3) := by decide +kernel
theorem dL_law_241 : decode cL_law 241 = .ok (.aload_n 2, 1) := by decide +kernel
theorem dL_law_242 : decode cL_law 242 = .ok (.aload_n 0, 1) := by decide +kernel
theorem dL_law_243 : decode cL_law 243 = .ok (.iload_n 3, 1) := by decide +kernel
theorem dL_law_244 : decode cL_law 244 = .ok (.iconst 1, 1) := by decide +kernel
theorem dL_law_245 : decode cL_law 245 = .ok (.iadd, 1) := by decide +kernel
theorem dL_law_246 : decode cL_law 246 = .ok (.iaload, 1) := by decide +kernel
theorem dL_law_247 : decode cL_law 247 = .ok (.invokevirtual 17, 3) := by decide +kernel
theorem dL_law_250 : decode cL_law 250 = .ok (.if_icmp .eq 1342, 3) := by decide +kernel
theorem dL_law_253 : decode cL_law 253 = .ok (.iconst 0, 1) := by decide +kernel
theorem dL_law_254 : decode cL_law 254 = .ok (.ireturn, 1) := by decide +kernel
theorem dL_law_255 : decode cL_law 255 = .ok (.aload_n 1, 1) := by decide +kernel
theorem dL_law_256 : decode cL_law 256 = .ok (.invokevirtual 18, 3) := by decide +kernel
theorem dL_law_259 : decode cL_law 259 = .ok (.aload_n 2, 1) := by decide +kernel
theorem dL_law_260 : decode cL_law 260 = .ok (.invokevirtual 22, 3) := by decide +kernel
theorem dL_law_263 : decode cL_law 263 = .ok (.if_icmp .eq 1329, 3) := by decide +kernel
theorem dL_law_266 : decode cL_law 266 = .ok (.iconst 0, 1) := by decide +kernel
theorem dL_law_267 : decode cL_law 267 = .ok (.ireturn, 1) := by decide +kernel
theorem dL_law_268 : decode cL_law 268 = .ok (.aload_n 1, 1) := by decide +kernel
theorem dL_law_269 : decode cL_law 269 = .ok (.aload_n 0, 1) := by decide +kernel
theorem dL_law_270 : decode cL_law 270 = .ok (.iload_n 3, 1) := by decide +kernel
theorem dL_law_271 : decode cL_law 271 = .ok (.iconst 1, 1) := by decide +kernel
theorem dL_law_272 : decode cL_law 272 = .ok (.iadd, 1) := by decide +kernel
theorem dL_law_273 : decode cL_law 273 = .ok (.iaload, 1) := by decide +kernel
theorem dL_law_274 : decode cL_law 274 = .ok (.aload_n 0, 1) := by decide +kernel
theorem dL_law_275 : decode cL_law 275 = .ok (.iload_n 3, 1) := by decide +kernel
theorem dL_law_276 : decode cL_law 276 = .ok (.iconst 2, 1) := by decide +kernel
theorem dL_law_277 : decode cL_law 277 = .ok (.iadd, 1) := by decide +kernel
theorem dL_law_278 : decode cL_law 278 = .ok (.iaload, 1) := by decide +kernel
theorem dL_law_279 : decode cL_law 279 = .ok (.invokevirtual 23, 3) := by decide +kernel
theorem dL_law_282 : decode cL_law 282 = .ok (.aload_n 2, 1) := by decide +kernel
theorem dL_law_283 : decode cL_law 283 = .ok (.aload_n 0, 1) := by decide +kernel
theorem dL_law_284 : decode cL_law 284 = .ok (.iload_n 3, 1) := by decide +kernel
theorem dL_law_285 : decode cL_law 285 = .ok (.iconst 1, 1) := by decide +kernel
theorem dL_law_286 : decode cL_law 286 = .ok (.iadd, 1) := by decide +kernel
theorem dL_law_287 : decode cL_law 287 = .ok (.iaload, 1) := by decide +kernel
theorem dL_law_288 : decode cL_law 288 = .ok (.aload_n 0, 1) := by decide +kernel
theorem dL_law_289 : decode cL_law 289 = .ok (.iload_n 3, 1) := by decide +kernel
theorem dL_law_290 : decode cL_law 290 = .ok (.iconst 2, 1) := by decide +kernel
theorem dL_law_291 : decode cL_law 291 = .ok (.iadd, 1) := by decide +kernel
theorem dL_law_292 : decode cL_law 292 = .ok (.iaload, 1) := by decide +kernel
theorem dL_law_293 : decode cL_law 293 = .ok (.invokevirtual 27, 3) := by decide +kernel
theorem dL_law_296 : decode cL_law 296 = .ok (.if_icmp .eq 1296, 3) := by decide +kernel
theorem dL_law_299 : decode cL_law 299 = .ok (.iconst 0, 1) := by decide +kernel
theorem dL_law_300 : decode cL_law 300 = .ok (.ireturn, 1) := by decide +kernel
theorem dL_law_301 : decode cL_law 301 = .ok (.aload_n 1, 1) := by decide +kernel
theorem dL_law_302 : decode cL_law 302 = .ok (.aload_n 0, 1) := by decide +kernel
theorem dL_law_303 : decode cL_law 303 = .ok (.iload_n 3, 1) := by decide +kernel
theorem dL_law_304 : decode cL_law 304 = .ok (.iconst 1, 1) := by decide +kernel
theorem dL_law_305 : decode cL_law 305 = .ok (.iadd, 1) := by decide +kernel
theorem dL_law_306 : decode cL_law 306 = .ok (.iaload, 1) := by decide +kernel
theorem dL_law_307 : decode cL_law 307 = .ok (.aload_n 0, 1) := by decide +kernel
theorem dL_law_308 : decode cL_law 308 = .ok (.iload_n 3, 1) := by decide +kernel
theorem dL_law_309 : decode cL_law 309 = .ok (.iconst 2, 1) := by decide +kernel
theorem dL_law_310 : decode cL_law 310 = .ok (.iadd, 1) := by decide +kernel
theorem dL_law_311 : decode cL_law 311 = .ok (.iaload, 1) := by decide +kernel
theorem dL_law_312 : decode cL_law 312 = .ok (.invokevirtual 28, 3) := by decide +kernel
theorem dL_law_315 : decode cL_law 315 = .ok (.aload_n 2, 1) := by decide +kernel
theorem dL_law_316 : decode cL_law 316 = .ok (.aload_n 0, 1) := by decide +kernel
theorem dL_law_317 : decode cL_law 317 = .ok (.iload_n 3, 1) := by decide +kernel
theorem dL_law_318 : decode cL_law 318 = .ok (.iconst 1, 1) := by decide +kernel
theorem dL_law_319 : decode cL_law 319 = .ok (.iadd, 1) := by decide +kernel
theorem dL_law_320 : decode cL_law 320 = .ok (.iaload, 1) := by decide +kernel
theorem dL_law_321 : decode cL_law 321 = .ok (.aload_n 0, 1) := by decide +kernel
theorem dL_law_322 : decode cL_law 322 = .ok (.iload_n 3, 1) := by decide +kernel
theorem dL_law_323 : decode cL_law 323 = .ok (.iconst 2, 1) := by decide +kernel
theorem dL_law_324 : decode cL_law 324 = .ok (.iadd, 1) := by decide +kernel
theorem dL_law_325 : decode cL_law 325 = .ok (.iaload, 1) := by decide +kernel
theorem dL_law_326 : decode cL_law 326 = .ok (.invokevirtual 31, 3) := by decide +kernel
theorem dL_law_329 : decode cL_law 329 = .ok (.if_icmp .eq 1263, 3) := by decide +kernel
theorem dL_law_332 : decode cL_law 332 = .ok (.iconst 0, 1) := by decide +kernel
theorem dL_law_333 : decode cL_law 333 = .ok (.ireturn, 1) := by decide +kernel
theorem dL_law_334 : decode cL_law 334 = .ok (.aload_n 1, 1) := by decide +kernel
theorem dL_law_335 : decode cL_law 335 = .ok (.aload_n 0, 1) := by decide +kernel
theorem dL_law_336 : decode cL_law 336 = .ok (.iload_n 3, 1) := by decide +kernel
theorem dL_law_337 : decode cL_law 337 = .ok (.iconst 1, 1) := by decide +kernel
theorem dL_law_338 : decode cL_law 338 = .ok (.iadd, 1) := by decide +kernel
theorem dL_law_339 : decode cL_law 339 = .ok (.iaload, 1) := by decide +kernel
theorem dL_law_340 : decode cL_law 340 = .ok (.aload_n 0, 1) := by decide +kernel
theorem dL_law_341 : decode cL_law 341 = .ok (.iload_n 3, 1) := by decide +kernel
theorem dL_law_342 : decode cL_law 342 = .ok (.iconst 2, 1) := by decide +kernel
theorem dL_law_343 : decode cL_law 343 = .ok (.iadd, 1) := by decide +kernel
theorem dL_law_344 : decode cL_law 344 = .ok (.iaload, 1) := by decide +kernel
theorem dL_law_345 : decode cL_law 345 = .ok (.aload_n 0, 1) := by decide +kernel
theorem dL_law_346 : decode cL_law 346 = .ok (.iload_n 3, 1) := by decide +kernel
theorem dL_law_347 : decode cL_law 347 = .ok (.iconst 3, 1) := by decide +kernel
theorem dL_law_348 : decode cL_law 348 = .ok (.iadd, 1) := by decide +kernel
theorem dL_law_349 : decode cL_law 349 = .ok (.iaload, 1) := by decide +kernel
theorem dL_law_350 : decode cL_law 350 = .ok (.invokevirtual 32, 3) := by decide +kernel
theorem dL_law_353 : decode cL_law 353 = .ok (.aload_n 2, 1) := by decide +kernel
theorem dL_law_354 : decode cL_law 354 = .ok (.aload_n 0, 1) := by decide +kernel
theorem dL_law_355 : decode cL_law 355 = .ok (.iload_n 3, 1) := by decide +kernel
theorem dL_law_356 : decode cL_law 356 = .ok (.iconst 1, 1) := by decide +kernel
theorem dL_law_357 : decode cL_law 357 = .ok (.iadd, 1) := by decide +kernel
theorem dL_law_358 : decode cL_law 358 = .ok (.iaload, 1) := by decide +kernel
theorem dL_law_359 : decode cL_law 359 = .ok (.aload_n 0, 1) := by decide +kernel
theorem dL_law_360 : decode cL_law 360 = .ok (.iload_n 3, 1) := by decide +kernel
theorem dL_law_361 : decode cL_law 361 = .ok (.iconst 2, 1) := by decide +kernel
theorem dL_law_362 : decode cL_law 362 = .ok (.iadd, 1) := by decide +kernel
theorem dL_law_363 : decode cL_law 363 = .ok (.iaload, 1) := by decide +kernel
theorem dL_law_364 : decode cL_law 364 = .ok (.aload_n 0, 1) := by decide +kernel
theorem dL_law_365 : decode cL_law 365 = .ok (.iload_n 3, 1) := by decide +kernel
theorem dL_law_366 : decode cL_law 366 = .ok (.iconst 3, 1) := by decide +kernel
theorem dL_law_367 : decode cL_law 367 = .ok (.iadd, 1) := by decide +kernel
theorem dL_law_368 : decode cL_law 368 = .ok (.iaload, 1) := by decide +kernel
theorem dL_law_369 : decode cL_law 369 = .ok (.invokevirtual 36, 3) := by decide +kernel
theorem dL_law_372 : decode cL_law 372 = .ok (.if_icmp .eq 1220, 3) := by decide +kernel
theorem dL_law_375 : decode cL_law 375 = .ok (.iconst 0, 1) := by decide +kernel
theorem dL_law_376 : decode cL_law 376 = .ok (.ireturn, 1) := by decide +kernel
theorem dL_law_377 : decode cL_law 377 = .ok (.aload_n 1, 1) := by decide +kernel
theorem dL_law_378 : decode cL_law 378 = .ok (.aload_n 0, 1) := by decide +kernel
theorem dL_law_379 : decode cL_law 379 = .ok (.iload_n 3, 1) := by decide +kernel
theorem dL_law_380 : decode cL_law 380 = .ok (.iconst 1, 1) := by decide +kernel
theorem dL_law_381 : decode cL_law 381 = .ok (.iadd, 1) := by decide +kernel
theorem dL_law_382 : decode cL_law 382 = .ok (.iaload, 1) := by decide +kernel
theorem dL_law_383 : decode cL_law 383 = .ok (.invokevirtual 37, 3) := by decide +kernel
theorem dL_law_386 : decode cL_law 386 = .ok (.aload_n 2, 1) := by decide +kernel
theorem dL_law_387 : decode cL_law 387 = .ok (.aload_n 0, 1) := by decide +kernel
theorem dL_law_388 : decode cL_law 388 = .ok (.iload_n 3, 1) := by decide +kernel
theorem dL_law_389 : decode cL_law 389 = .ok (.iconst 1, 1) := by decide +kernel
theorem dL_law_390 : decode cL_law 390 = .ok (.iadd, 1) := by decide +kernel
theorem dL_law_391 : decode cL_law 391 = .ok (.iaload, 1) := by decide +kernel
theorem dL_law_392 : decode cL_law 392 = .ok (.invokevirtual 40, 3) := by decide +kernel
theorem dL_law_395 : decode cL_law 395 = .ok (.if_icmp .eq 1197, 3) := by decide +kernel
theorem dL_law_398 : decode cL_law 398 = .ok (.iconst 0, 1) := by decide +kernel
theorem dL_law_399 : decode cL_law 399 = .ok (.ireturn, 1) := by decide +kernel
theorem dL_law_400 : decode cL_law 400 = .ok (.aload_n 1, 1) := by decide +kernel
theorem dL_law_401 : decode cL_law 401 = .ok (.aload_n 0, 1) := by decide +kernel
theorem dL_law_402 : decode cL_law 402 = .ok (.iload_n 3, 1) := by decide +kernel
theorem dL_law_403 : decode cL_law 403 = .ok (.iconst 1, 1) := by decide +kernel
theorem dL_law_404 : decode cL_law 404 = .ok (.iadd, 1) := by decide +kernel
theorem dL_law_405 : decode cL_law 405 = .ok (.iaload, 1) := by decide +kernel
theorem dL_law_406 : decode cL_law 406 = .ok (.invokevirtual 41, 3) := by decide +kernel
theorem dL_law_409 : decode cL_law 409 = .ok (.aload_n 2, 1) := by decide +kernel
theorem dL_law_410 : decode cL_law 410 = .ok (.aload_n 0, 1) := by decide +kernel
theorem dL_law_411 : decode cL_law 411 = .ok (.iload_n 3, 1) := by decide +kernel
theorem dL_law_412 : decode cL_law 412 = .ok (.iconst 1, 1) := by decide +kernel
theorem dL_law_413 : decode cL_law 413 = .ok (.iadd, 1) := by decide +kernel
theorem dL_law_414 : decode cL_law 414 = .ok (.iaload, 1) := by decide +kernel
theorem dL_law_415 : decode cL_law 415 = .ok (.invokevirtual 44, 3) := by decide +kernel
theorem dL_law_418 : decode cL_law 418 = .ok (.if_icmp .eq 1174, 3) := by decide +kernel
theorem dL_law_421 : decode cL_law 421 = .ok (.iconst 0, 1) := by decide +kernel
theorem dL_law_422 : decode cL_law 422 = .ok (.ireturn, 1) := by decide +kernel
theorem dL_law_423 : decode cL_law 423 = .ok (.aload_n 1, 1) := by decide +kernel
theorem dL_law_424 : decode cL_law 424 = .ok (.aload_n 0, 1) := by decide +kernel
theorem dL_law_425 : decode cL_law 425 = .ok (.iload_n 3, 1) := by decide +kernel
theorem dL_law_426 : decode cL_law 426 = .ok (.iconst 1, 1) := by decide +kernel
theorem dL_law_427 : decode cL_law 427 = .ok (.iadd, 1) := by decide +kernel
theorem dL_law_428 : decode cL_law 428 = .ok (.iaload, 1) := by decide +kernel
theorem dL_law_429 : decode cL_law 429 = .ok (.aload_n 0, 1) := by decide +kernel
theorem dL_law_430 : decode cL_law 430 = .ok (.iload_n 3, 1) := by decide +kernel
theorem dL_law_431 : decode cL_law 431 = .ok (.iconst 2, 1) := by decide +kernel
theorem dL_law_432 : decode cL_law 432 = .ok (.iadd, 1) := by decide +kernel
theorem dL_law_433 : decode cL_law 433 = .ok (.iaload, 1) := by decide +kernel
theorem dL_law_434 : decode cL_law 434 = .ok (.invokevirtual 45, 3) := by decide +kernel
theorem dL_law_437 : decode cL_law 437 = .ok (.aload_n 2, 1) := by decide +kernel
theorem dL_law_438 : decode cL_law 438 = .ok (.aload_n 0, 1) := by decide +kernel
theorem dL_law_439 : decode cL_law 439 = .ok (.iload_n 3, 1) := by decide +kernel
theorem dL_law_440 : decode cL_law 440 = .ok (.iconst 1, 1) := by decide +kernel
theorem dL_law_441 : decode cL_law 441 = .ok (.iadd, 1) := by decide +kernel
theorem dL_law_442 : decode cL_law 442 = .ok (.iaload, 1) := by decide +kernel
theorem dL_law_443 : decode cL_law 443 = .ok (.aload_n 0, 1) := by decide +kernel
theorem dL_law_444 : decode cL_law 444 = .ok (.iload_n 3, 1) := by decide +kernel
theorem dL_law_445 : decode cL_law 445 = .ok (.iconst 2, 1) := by decide +kernel
theorem dL_law_446 : decode cL_law 446 = .ok (.iadd, 1) := by decide +kernel
theorem dL_law_447 : decode cL_law 447 = .ok (.iaload, 1) := by decide +kernel
theorem dL_law_448 : decode cL_law 448 = .ok (.invokevirtual 48, 3) := by decide +kernel
theorem dL_law_451 : decode cL_law 451 = .ok (.if_icmp .eq 1141, 3) := by decide +kernel
theorem dL_law_454 : decode cL_law 454 = .ok (.iconst 0, 1) := by decide +kernel
theorem dL_law_455 : decode cL_law 455 = .ok (.ireturn, 1) := by decide +kernel
theorem dL_law_456 : decode cL_law 456 = .ok (.aload_n 1, 1) := by decide +kernel
theorem dL_law_457 : decode cL_law 457 = .ok (.aload_n 0, 1) := by decide +kernel
theorem dL_law_458 : decode cL_law 458 = .ok (.iload_n 3, 1) := by decide +kernel
theorem dL_law_459 : decode cL_law 459 = .ok (.iconst 1, 1) := by decide +kernel
theorem dL_law_460 : decode cL_law 460 = .ok (.iadd, 1) := by decide +kernel
theorem dL_law_461 : decode cL_law 461 = .ok (.iaload, 1) := by decide +kernel
theorem dL_law_462 : decode cL_law 462 = .ok (.aload_n 0, 1) := by decide +kernel
theorem dL_law_463 : decode cL_law 463 = .ok (.iload_n 3, 1) := by decide +kernel
theorem dL_law_464 : decode cL_law 464 = .ok (.iconst 2, 1) := by decide +kernel
theorem dL_law_465 : decode cL_law 465 = .ok (.iadd, 1) := by decide +kernel
theorem dL_law_466 : decode cL_law 466 = .ok (.iaload, 1) := by decide +kernel
theorem dL_law_467 : decode cL_law 467 = .ok (.invokevirtual 49, 3) := by decide +kernel
theorem dL_law_470 : decode cL_law 470 = .ok (.aload_n 2, 1) := by decide +kernel
theorem dL_law_471 : decode cL_law 471 = .ok (.aload_n 0, 1) := by decide +kernel
theorem dL_law_472 : decode cL_law 472 = .ok (.iload_n 3, 1) := by decide +kernel
theorem dL_law_473 : decode cL_law 473 = .ok (.iconst 1, 1) := by decide +kernel
theorem dL_law_474 : decode cL_law 474 = .ok (.iadd, 1) := by decide +kernel
theorem dL_law_475 : decode cL_law 475 = .ok (.iaload, 1) := by decide +kernel
theorem dL_law_476 : decode cL_law 476 = .ok (.aload_n 0, 1) := by decide +kernel
theorem dL_law_477 : decode cL_law 477 = .ok (.iload_n 3, 1) := by decide +kernel
theorem dL_law_478 : decode cL_law 478 = .ok (.iconst 2, 1) := by decide +kernel
theorem dL_law_479 : decode cL_law 479 = .ok (.iadd, 1) := by decide +kernel
theorem dL_law_480 : decode cL_law 480 = .ok (.iaload, 1) := by decide +kernel
theorem dL_law_481 : decode cL_law 481 = .ok (.invokevirtual 52, 3) := by decide +kernel
theorem dL_law_484 : decode cL_law 484 = .ok (.if_icmp .eq 1108, 3) := by decide +kernel
theorem dL_law_487 : decode cL_law 487 = .ok (.iconst 0, 1) := by decide +kernel
theorem dL_law_488 : decode cL_law 488 = .ok (.ireturn, 1) := by decide +kernel
theorem dL_law_489 : decode cL_law 489 = .ok (.aload_n 1, 1) := by decide +kernel
theorem dL_law_490 : decode cL_law 490 = .ok (.aload_n 0, 1) := by decide +kernel
theorem dL_law_491 : decode cL_law 491 = .ok (.iload_n 3, 1) := by decide +kernel
theorem dL_law_492 : decode cL_law 492 = .ok (.iconst 1, 1) := by decide +kernel
theorem dL_law_493 : decode cL_law 493 = .ok (.iadd, 1) := by decide +kernel
theorem dL_law_494 : decode cL_law 494 = .ok (.iaload, 1) := by decide +kernel
theorem dL_law_495 : decode cL_law 495 = .ok (.aload_n 0, 1) := by decide +kernel
theorem dL_law_496 : decode cL_law 496 = .ok (.iload_n 3, 1) := by decide +kernel
theorem dL_law_497 : decode cL_law 497 = .ok (.iconst 2, 1) := by decide +kernel
theorem dL_law_498 : decode cL_law 498 = .ok (.iadd, 1) := by decide +kernel
theorem dL_law_499 : decode cL_law 499 = .ok (.iaload, 1) := by decide +kernel
theorem dL_law_500 : decode cL_law 500 = .ok (.invokevirtual 53, 3) := by decide +kernel
theorem dL_law_503 : decode cL_law 503 = .ok (.aload_n 2, 1) := by decide +kernel
theorem dL_law_504 : decode cL_law 504 = .ok (.aload_n 0, 1) := by decide +kernel
theorem dL_law_505 : decode cL_law 505 = .ok (.iload_n 3, 1) := by decide +kernel
theorem dL_law_506 : decode cL_law 506 = .ok (.iconst 1, 1) := by decide +kernel
theorem dL_law_507 : decode cL_law 507 = .ok (.iadd, 1) := by decide +kernel
theorem dL_law_508 : decode cL_law 508 = .ok (.iaload, 1) := by decide +kernel
theorem dL_law_509 : decode cL_law 509 = .ok (.aload_n 0, 1) := by decide +kernel
theorem dL_law_510 : decode cL_law 510 = .ok (.iload_n 3, 1) := by decide +kernel
theorem dL_law_511 : decode cL_law 511 = .ok (.iconst 2, 1) := by decide +kernel
theorem dL_law_512 : decode cL_law 512 = .ok (.iadd, 1) := by decide +kernel
theorem dL_law_513 : decode cL_law 513 = .ok (.iaload, 1) := by decide +kernel
theorem dL_law_514 : decode cL_law 514 = .ok (.invokevirtual 56, 3) := by decide +kernel
theorem dL_law_517 : decode cL_law 517 = .ok (.if_icmp .eq 1075, 3) := by decide +kernel
theorem dL_law_520 : decode cL_law 520 = .ok (.iconst 0, 1) := by decide +kernel
theorem dL_law_521 : decode cL_law 521 = .ok (.ireturn, 1) := by decide +kernel
theorem dL_law_522 : decode cL_law 522 = .ok (.aload_n 1, 1) := by decide +kernel
theorem dL_law_523 : decode cL_law 523 = .ok (.invokevirtual 57, 3) := by decide +kernel
theorem dL_law_526 : decode cL_law 526 = .ok (.aload_n 2, 1) := by decide +kernel
theorem dL_law_527 : decode cL_law 527 = .ok (.invokevirtual 60, 3) := by decide +kernel
theorem dL_law_530 : decode cL_law 530 = .ok (.if_icmp .eq 1062, 3) := by decide +kernel
theorem dL_law_533 : decode cL_law 533 = .ok (.iconst 0, 1) := by decide +kernel
theorem dL_law_534 : decode cL_law 534 = .ok (.ireturn, 1) := by decide +kernel
theorem dL_law_535 : decode cL_law 535 = .ok (.aload_n 1, 1) := by decide +kernel
theorem dL_law_536 : decode cL_law 536 = .ok (.invokevirtual 61, 3) := by decide +kernel
theorem dL_law_539 : decode cL_law 539 = .ok (.aload_n 2, 1) := by decide +kernel
theorem dL_law_540 : decode cL_law 540 = .ok (.invokevirtual 64, 3) := by decide +kernel
theorem dL_law_543 : decode cL_law 543 = .ok (.if_icmp .eq 1049, 3) := by decide +kernel
theorem dL_law_546 : decode cL_law 546 = .ok (.iconst 0, 1) := by decide +kernel
theorem dL_law_547 : decode cL_law 547 = .ok (.ireturn, 1) := by decide +kernel
theorem dL_law_548 : decode cL_law 548 = .ok (.aload_n 1, 1) := by decide +kernel
theorem dL_law_549 : decode cL_law 549 = .ok (.aload_n 0, 1) := by decide +kernel
theorem dL_law_550 : decode cL_law 550 = .ok (.iload_n 3, 1) := by decide +kernel
theorem dL_law_551 : decode cL_law 551 = .ok (.iconst 1, 1) := by decide +kernel
theorem dL_law_552 : decode cL_law 552 = .ok (.iadd, 1) := by decide +kernel
theorem dL_law_553 : decode cL_law 553 = .ok (.iaload, 1) := by decide +kernel
theorem dL_law_554 : decode cL_law 554 = .ok (.aload_n 0, 1) := by decide +kernel
theorem dL_law_555 : decode cL_law 555 = .ok (.iload_n 3, 1) := by decide +kernel
theorem dL_law_556 : decode cL_law 556 = .ok (.iconst 2, 1) := by decide +kernel
theorem dL_law_557 : decode cL_law 557 = .ok (.iadd, 1) := by decide +kernel
theorem dL_law_558 : decode cL_law 558 = .ok (.iaload, 1) := by decide +kernel
theorem dL_law_559 : decode cL_law 559 = .ok (.aload_n 0, 1) := by decide +kernel
theorem dL_law_560 : decode cL_law 560 = .ok (.iload_n 3, 1) := by decide +kernel
theorem dL_law_561 : decode cL_law 561 = .ok (.iconst 3, 1) := by decide +kernel
theorem dL_law_562 : decode cL_law 562 = .ok (.iadd, 1) := by decide +kernel
theorem dL_law_563 : decode cL_law 563 = .ok (.iaload, 1) := by decide +kernel
theorem dL_law_564 : decode cL_law 564 = .ok (.invokevirtual 65, 3) := by decide +kernel
theorem dL_law_567 : decode cL_law 567 = .ok (.aload_n 2, 1) := by decide +kernel
theorem dL_law_568 : decode cL_law 568 = .ok (.aload_n 0, 1) := by decide +kernel
theorem dL_law_569 : decode cL_law 569 = .ok (.iload_n 3, 1) := by decide +kernel
theorem dL_law_570 : decode cL_law 570 = .ok (.iconst 1, 1) := by decide +kernel
theorem dL_law_571 : decode cL_law 571 = .ok (.iadd, 1) := by decide +kernel
theorem dL_law_572 : decode cL_law 572 = .ok (.iaload, 1) := by decide +kernel
theorem dL_law_573 : decode cL_law 573 = .ok (.aload_n 0, 1) := by decide +kernel
theorem dL_law_574 : decode cL_law 574 = .ok (.iload_n 3, 1) := by decide +kernel
theorem dL_law_575 : decode cL_law 575 = .ok (.iconst 2, 1) := by decide +kernel
theorem dL_law_576 : decode cL_law 576 = .ok (.iadd, 1) := by decide +kernel
theorem dL_law_577 : decode cL_law 577 = .ok (.iaload, 1) := by decide +kernel
theorem dL_law_578 : decode cL_law 578 = .ok (.aload_n 0, 1) := by decide +kernel
theorem dL_law_579 : decode cL_law 579 = .ok (.iload_n 3, 1) := by decide +kernel
theorem dL_law_580 : decode cL_law 580 = .ok (.iconst 3, 1) := by decide +kernel
theorem dL_law_581 : decode cL_law 581 = .ok (.iadd, 1) := by decide +kernel
theorem dL_law_582 : decode cL_law 582 = .ok (.iaload, 1) := by decide +kernel
theorem dL_law_583 : decode cL_law 583 = .ok (.invokevirtual 68, 3) := by decide +kernel
theorem dL_law_586 : decode cL_law 586 = .ok (.if_icmp .eq 1006, 3) := by decide +kernel
theorem dL_law_589 : decode cL_law 589 = .ok (.iconst 0, 1) := by decide +kernel
theorem dL_law_590 : decode cL_law 590 = .ok (.ireturn, 1) := by decide +kernel
theorem dL_law_591 : decode cL_law 591 = .ok (.aload_n 1, 1) := by decide +kernel
theorem dL_law_592 : decode cL_law 592 = .ok (.aload_n 0, 1) := by decide +kernel
theorem dL_law_593 : decode cL_law 593 = .ok (.iload_n 3, 1) := by decide +kernel
theorem dL_law_594 : decode cL_law 594 = .ok (.iconst 1, 1) := by decide +kernel
theorem dL_law_595 : decode cL_law 595 = .ok (.iadd, 1) := by decide +kernel
theorem dL_law_596 : decode cL_law 596 = .ok (.iaload, 1) := by decide +kernel
theorem dL_law_597 : decode cL_law 597 = .ok (.aload_n 0, 1) := by decide +kernel
theorem dL_law_598 : decode cL_law 598 = .ok (.iload_n 3, 1) := by decide +kernel
theorem dL_law_599 : decode cL_law 599 = .ok (.iconst 2, 1) := by decide +kernel
theorem dL_law_600 : decode cL_law 600 = .ok (.iadd, 1) := by decide +kernel
theorem dL_law_601 : decode cL_law 601 = .ok (.iaload, 1) := by decide +kernel
theorem dL_law_602 : decode cL_law 602 = .ok (.aload_n 0, 1) := by decide +kernel
theorem dL_law_603 : decode cL_law 603 = .ok (.iload_n 3, 1) := by decide +kernel
theorem dL_law_604 : decode cL_law 604 = .ok (.iconst 3, 1) := by decide +kernel
theorem dL_law_605 : decode cL_law 605 = .ok (.iadd, 1) := by decide +kernel
theorem dL_law_606 : decode cL_law 606 = .ok (.iaload, 1) := by decide +kernel
theorem dL_law_607 : decode cL_law 607 = .ok (.aload_n 0, 1) := by decide +kernel
theorem dL_law_608 : decode cL_law 608 = .ok (.iload_n 3, 1) := by decide +kernel
theorem dL_law_609 : decode cL_law 609 = .ok (.iconst 4, 1) := by decide +kernel
theorem dL_law_610 : decode cL_law 610 = .ok (.iadd, 1) := by decide +kernel
theorem dL_law_611 : decode cL_law 611 = .ok (.iaload, 1) := by decide +kernel
theorem dL_law_612 : decode cL_law 612 = .ok (.invokevirtual 69, 3) := by decide +kernel
theorem dL_law_615 : decode cL_law 615 = .ok (.aload_n 2, 1) := by decide +kernel
theorem dL_law_616 : decode cL_law 616 = .ok (.aload_n 0, 1) := by decide +kernel
theorem dL_law_617 : decode cL_law 617 = .ok (.iload_n 3, 1) := by decide +kernel
theorem dL_law_618 : decode cL_law 618 = .ok (.iconst 1, 1) := by decide +kernel
theorem dL_law_619 : decode cL_law 619 = .ok (.iadd, 1) := by decide +kernel
theorem dL_law_620 : decode cL_law 620 = .ok (.iaload, 1) := by decide +kernel
theorem dL_law_621 : decode cL_law 621 = .ok (.aload_n 0, 1) := by decide +kernel
theorem dL_law_622 : decode cL_law 622 = .ok (.iload_n 3, 1) := by decide +kernel
theorem dL_law_623 : decode cL_law 623 = .ok (.iconst 2, 1) := by decide +kernel
theorem dL_law_624 : decode cL_law 624 = .ok (.iadd, 1) := by decide +kernel
theorem dL_law_625 : decode cL_law 625 = .ok (.iaload, 1) := by decide +kernel
theorem dL_law_626 : decode cL_law 626 = .ok (.aload_n 0, 1) := by decide +kernel
theorem dL_law_627 : decode cL_law 627 = .ok (.iload_n 3, 1) := by decide +kernel
theorem dL_law_628 : decode cL_law 628 = .ok (.iconst 3, 1) := by decide +kernel
theorem dL_law_629 : decode cL_law 629 = .ok (.iadd, 1) := by decide +kernel
theorem dL_law_630 : decode cL_law 630 = .ok (.iaload, 1) := by decide +kernel
theorem dL_law_631 : decode cL_law 631 = .ok (.aload_n 0, 1) := by decide +kernel
theorem dL_law_632 : decode cL_law 632 = .ok (.iload_n 3, 1) := by decide +kernel
theorem dL_law_633 : decode cL_law 633 = .ok (.iconst 4, 1) := by decide +kernel
theorem dL_law_634 : decode cL_law 634 = .ok (.iadd, 1) := by decide +kernel
theorem dL_law_635 : decode cL_law 635 = .ok (.iaload, 1) := by decide +kernel
theorem dL_law_636 : decode cL_law 636 = .ok (.invokevirtual 73, 3) := by decide +kernel
theorem dL_law_639 : decode cL_law 639 = .ok (.if_icmp .eq 953, 3) := by decide +kernel
theorem dL_law_642 : decode cL_law 642 = .ok (.iconst 0, 1) := by decide +kernel
theorem dL_law_643 : decode cL_law 643 = .ok (.ireturn, 1) := by decide +kernel
theorem dL_law_644 : decode cL_law 644 = .ok (.aload_n 1, 1) := by decide +kernel
theorem dL_law_645 : decode cL_law 645 = .ok (.aload_n 0, 1) := by decide +kernel
theorem dL_law_646 : decode cL_law 646 = .ok (.iload_n 3, 1) := by decide +kernel
theorem dL_law_647 : decode cL_law 647 = .ok (.iconst 1, 1) := by decide +kernel
theorem dL_law_648 : decode cL_law 648 = .ok (.iadd, 1) := by decide +kernel
theorem dL_law_649 : decode cL_law 649 = .ok (.iaload, 1) := by decide +kernel
theorem dL_law_650 : decode cL_law 650 = .ok (.aload_n 0, 1) := by decide +kernel
theorem dL_law_651 : decode cL_law 651 = .ok (.iload_n 3, 1) := by decide +kernel
theorem dL_law_652 : decode cL_law 652 = .ok (.iconst 2, 1) := by decide +kernel
theorem dL_law_653 : decode cL_law 653 = .ok (.iadd, 1) := by decide +kernel
theorem dL_law_654 : decode cL_law 654 = .ok (.iaload, 1) := by decide +kernel
theorem dL_law_655 : decode cL_law 655 = .ok (.aload_n 0, 1) := by decide +kernel
theorem dL_law_656 : decode cL_law 656 = .ok (.iload_n 3, 1) := by decide +kernel
theorem dL_law_657 : decode cL_law 657 = .ok (.iconst 3, 1) := by decide +kernel
theorem dL_law_658 : decode cL_law 658 = .ok (.iadd, 1) := by decide +kernel
theorem dL_law_659 : decode cL_law 659 = .ok (.iaload, 1) := by decide +kernel
theorem dL_law_660 : decode cL_law 660 = .ok (.invokevirtual 74, 3) := by decide +kernel
theorem dL_law_663 : decode cL_law 663 = .ok (.aload_n 2, 1) := by decide +kernel
theorem dL_law_664 : decode cL_law 664 = .ok (.aload_n 0, 1) := by decide +kernel
theorem dL_law_665 : decode cL_law 665 = .ok (.iload_n 3, 1) := by decide +kernel
theorem dL_law_666 : decode cL_law 666 = .ok (.iconst 1, 1) := by decide +kernel
theorem dL_law_667 : decode cL_law 667 = .ok (.iadd, 1) := by decide +kernel
theorem dL_law_668 : decode cL_law 668 = .ok (.iaload, 1) := by decide +kernel
theorem dL_law_669 : decode cL_law 669 = .ok (.aload_n 0, 1) := by decide +kernel
theorem dL_law_670 : decode cL_law 670 = .ok (.iload_n 3, 1) := by decide +kernel
theorem dL_law_671 : decode cL_law 671 = .ok (.iconst 2, 1) := by decide +kernel
theorem dL_law_672 : decode cL_law 672 = .ok (.iadd, 1) := by decide +kernel
theorem dL_law_673 : decode cL_law 673 = .ok (.iaload, 1) := by decide +kernel
theorem dL_law_674 : decode cL_law 674 = .ok (.aload_n 0, 1) := by decide +kernel
theorem dL_law_675 : decode cL_law 675 = .ok (.iload_n 3, 1) := by decide +kernel
theorem dL_law_676 : decode cL_law 676 = .ok (.iconst 3, 1) := by decide +kernel
theorem dL_law_677 : decode cL_law 677 = .ok (.iadd, 1) := by decide +kernel
theorem dL_law_678 : decode cL_law 678 = .ok (.iaload, 1) := by decide +kernel
theorem dL_law_679 : decode cL_law 679 = .ok (.invokevirtual 77, 3) := by decide +kernel
theorem dL_law_682 : decode cL_law 682 = .ok (.if_icmp .eq 910, 3) := by decide +kernel
theorem dL_law_685 : decode cL_law 685 = .ok (.iconst 0, 1) := by decide +kernel
theorem dL_law_686 : decode cL_law 686 = .ok (.ireturn, 1) := by decide +kernel
theorem dL_law_687 : decode cL_law 687 = .ok (.aload_n 1, 1) := by decide +kernel
theorem dL_law_688 : decode cL_law 688 = .ok (.aload_n 0, 1) := by decide +kernel
theorem dL_law_689 : decode cL_law 689 = .ok (.iload_n 3, 1) := by decide +kernel
theorem dL_law_690 : decode cL_law 690 = .ok (.iconst 1, 1) := by decide +kernel
theorem dL_law_691 : decode cL_law 691 = .ok (.iadd, 1) := by decide +kernel
theorem dL_law_692 : decode cL_law 692 = .ok (.iaload, 1) := by decide +kernel
theorem dL_law_693 : decode cL_law 693 = .ok (.aload_n 0, 1) := by decide +kernel
theorem dL_law_694 : decode cL_law 694 = .ok (.iload_n 3, 1) := by decide +kernel
theorem dL_law_695 : decode cL_law 695 = .ok (.iconst 2, 1) := by decide +kernel
theorem dL_law_696 : decode cL_law 696 = .ok (.iadd, 1) := by decide +kernel
theorem dL_law_697 : decode cL_law 697 = .ok (.iaload, 1) := by decide +kernel
theorem dL_law_698 : decode cL_law 698 = .ok (.aload_n 0, 1) := by decide +kernel
theorem dL_law_699 : decode cL_law 699 = .ok (.iload_n 3, 1) := by decide +kernel
theorem dL_law_700 : decode cL_law 700 = .ok (.iconst 3, 1) := by decide +kernel
theorem dL_law_701 : decode cL_law 701 = .ok (.iadd, 1) := by decide +kernel
theorem dL_law_702 : decode cL_law 702 = .ok (.iaload, 1) := by decide +kernel
theorem dL_law_703 : decode cL_law 703 = .ok (.invokevirtual 78, 3) := by decide +kernel
theorem dL_law_706 : decode cL_law 706 = .ok (.aload_n 2, 1) := by decide +kernel
theorem dL_law_707 : decode cL_law 707 = .ok (.aload_n 0, 1) := by decide +kernel
theorem dL_law_708 : decode cL_law 708 = .ok (.iload_n 3, 1) := by decide +kernel
theorem dL_law_709 : decode cL_law 709 = .ok (.iconst 1, 1) := by decide +kernel
theorem dL_law_710 : decode cL_law 710 = .ok (.iadd, 1) := by decide +kernel
theorem dL_law_711 : decode cL_law 711 = .ok (.iaload, 1) := by decide +kernel
theorem dL_law_712 : decode cL_law 712 = .ok (.aload_n 0, 1) := by decide +kernel
theorem dL_law_713 : decode cL_law 713 = .ok (.iload_n 3, 1) := by decide +kernel
theorem dL_law_714 : decode cL_law 714 = .ok (.iconst 2, 1) := by decide +kernel
theorem dL_law_715 : decode cL_law 715 = .ok (.iadd, 1) := by decide +kernel
theorem dL_law_716 : decode cL_law 716 = .ok (.iaload, 1) := by decide +kernel
theorem dL_law_717 : decode cL_law 717 = .ok (.aload_n 0, 1) := by decide +kernel
theorem dL_law_718 : decode cL_law 718 = .ok (.iload_n 3, 1) := by decide +kernel
theorem dL_law_719 : decode cL_law 719 = .ok (.iconst 3, 1) := by decide +kernel
theorem dL_law_720 : decode cL_law 720 = .ok (.iadd, 1) := by decide +kernel
theorem dL_law_721 : decode cL_law 721 = .ok (.iaload, 1) := by decide +kernel
theorem dL_law_722 : decode cL_law 722 = .ok (.invokevirtual 81, 3) := by decide +kernel
theorem dL_law_725 : decode cL_law 725 = .ok (.if_icmp .eq 867, 3) := by decide +kernel
theorem dL_law_728 : decode cL_law 728 = .ok (.iconst 0, 1) := by decide +kernel
theorem dL_law_729 : decode cL_law 729 = .ok (.ireturn, 1) := by decide +kernel
theorem dL_law_730 : decode cL_law 730 = .ok (.aload_n 1, 1) := by decide +kernel
theorem dL_law_731 : decode cL_law 731 = .ok (.aload_n 0, 1) := by decide +kernel
theorem dL_law_732 : decode cL_law 732 = .ok (.iload_n 3, 1) := by decide +kernel
theorem dL_law_733 : decode cL_law 733 = .ok (.iconst 1, 1) := by decide +kernel
theorem dL_law_734 : decode cL_law 734 = .ok (.iadd, 1) := by decide +kernel
theorem dL_law_735 : decode cL_law 735 = .ok (.iaload, 1) := by decide +kernel
theorem dL_law_736 : decode cL_law 736 = .ok (.aload_n 0, 1) := by decide +kernel
theorem dL_law_737 : decode cL_law 737 = .ok (.iload_n 3, 1) := by decide +kernel
theorem dL_law_738 : decode cL_law 738 = .ok (.iconst 2, 1) := by decide +kernel
theorem dL_law_739 : decode cL_law 739 = .ok (.iadd, 1) := by decide +kernel
theorem dL_law_740 : decode cL_law 740 = .ok (.iaload, 1) := by decide +kernel
theorem dL_law_741 : decode cL_law 741 = .ok (.aload_n 0, 1) := by decide +kernel
theorem dL_law_742 : decode cL_law 742 = .ok (.iload_n 3, 1) := by decide +kernel
theorem dL_law_743 : decode cL_law 743 = .ok (.iconst 3, 1) := by decide +kernel
theorem dL_law_744 : decode cL_law 744 = .ok (.iadd, 1) := by decide +kernel
theorem dL_law_745 : decode cL_law 745 = .ok (.iaload, 1) := by decide +kernel
theorem dL_law_746 : decode cL_law 746 = .ok (.invokevirtual 82, 3) := by decide +kernel
theorem dL_law_749 : decode cL_law 749 = .ok (.aload_n 2, 1) := by decide +kernel
theorem dL_law_750 : decode cL_law 750 = .ok (.aload_n 0, 1) := by decide +kernel
theorem dL_law_751 : decode cL_law 751 = .ok (.iload_n 3, 1) := by decide +kernel
theorem dL_law_752 : decode cL_law 752 = .ok (.iconst 1, 1) := by decide +kernel
theorem dL_law_753 : decode cL_law 753 = .ok (.iadd, 1) := by decide +kernel
theorem dL_law_754 : decode cL_law 754 = .ok (.iaload, 1) := by decide +kernel
theorem dL_law_755 : decode cL_law 755 = .ok (.aload_n 0, 1) := by decide +kernel
theorem dL_law_756 : decode cL_law 756 = .ok (.iload_n 3, 1) := by decide +kernel
theorem dL_law_757 : decode cL_law 757 = .ok (.iconst 2, 1) := by decide +kernel
theorem dL_law_758 : decode cL_law 758 = .ok (.iadd, 1) := by decide +kernel
theorem dL_law_759 : decode cL_law 759 = .ok (.iaload, 1) := by decide +kernel
theorem dL_law_760 : decode cL_law 760 = .ok (.aload_n 0, 1) := by decide +kernel
theorem dL_law_761 : decode cL_law 761 = .ok (.iload_n 3, 1) := by decide +kernel
theorem dL_law_762 : decode cL_law 762 = .ok (.iconst 3, 1) := by decide +kernel
theorem dL_law_763 : decode cL_law 763 = .ok (.iadd, 1) := by decide +kernel
theorem dL_law_764 : decode cL_law 764 = .ok (.iaload, 1) := by decide +kernel
theorem dL_law_765 : decode cL_law 765 = .ok (.invokevirtual 85, 3) := by decide +kernel
theorem dL_law_768 : decode cL_law 768 = .ok (.if_icmp .eq 824, 3) := by decide +kernel
theorem dL_law_771 : decode cL_law 771 = .ok (.iconst 0, 1) := by decide +kernel
theorem dL_law_772 : decode cL_law 772 = .ok (.ireturn, 1) := by decide +kernel
theorem dL_law_773 : decode cL_law 773 = .ok (.aload_n 1, 1) := by decide +kernel
theorem dL_law_774 : decode cL_law 774 = .ok (.aload_n 0, 1) := by decide +kernel
theorem dL_law_775 : decode cL_law 775 = .ok (.iload_n 3, 1) := by decide +kernel
theorem dL_law_776 : decode cL_law 776 = .ok (.iconst 1, 1) := by decide +kernel
theorem dL_law_777 : decode cL_law 777 = .ok (.iadd, 1) := by decide +kernel
theorem dL_law_778 : decode cL_law 778 = .ok (.iaload, 1) := by decide +kernel
theorem dL_law_779 : decode cL_law 779 = .ok (.aload_n 0, 1) := by decide +kernel
theorem dL_law_780 : decode cL_law 780 = .ok (.iload_n 3, 1) := by decide +kernel
theorem dL_law_781 : decode cL_law 781 = .ok (.iconst 2, 1) := by decide +kernel
theorem dL_law_782 : decode cL_law 782 = .ok (.iadd, 1) := by decide +kernel
theorem dL_law_783 : decode cL_law 783 = .ok (.iaload, 1) := by decide +kernel
theorem dL_law_784 : decode cL_law 784 = .ok (.aload_n 0, 1) := by decide +kernel
theorem dL_law_785 : decode cL_law 785 = .ok (.iload_n 3, 1) := by decide +kernel
theorem dL_law_786 : decode cL_law 786 = .ok (.iconst 3, 1) := by decide +kernel
theorem dL_law_787 : decode cL_law 787 = .ok (.iadd, 1) := by decide +kernel
theorem dL_law_788 : decode cL_law 788 = .ok (.iaload, 1) := by decide +kernel
theorem dL_law_789 : decode cL_law 789 = .ok (.invokevirtual 86, 3) := by decide +kernel
theorem dL_law_792 : decode cL_law 792 = .ok (.aload_n 2, 1) := by decide +kernel
theorem dL_law_793 : decode cL_law 793 = .ok (.aload_n 0, 1) := by decide +kernel
theorem dL_law_794 : decode cL_law 794 = .ok (.iload_n 3, 1) := by decide +kernel
theorem dL_law_795 : decode cL_law 795 = .ok (.iconst 1, 1) := by decide +kernel
theorem dL_law_796 : decode cL_law 796 = .ok (.iadd, 1) := by decide +kernel
theorem dL_law_797 : decode cL_law 797 = .ok (.iaload, 1) := by decide +kernel
theorem dL_law_798 : decode cL_law 798 = .ok (.aload_n 0, 1) := by decide +kernel
theorem dL_law_799 : decode cL_law 799 = .ok (.iload_n 3, 1) := by decide +kernel
theorem dL_law_800 : decode cL_law 800 = .ok (.iconst 2, 1) := by decide +kernel
theorem dL_law_801 : decode cL_law 801 = .ok (.iadd, 1) := by decide +kernel
theorem dL_law_802 : decode cL_law 802 = .ok (.iaload, 1) := by decide +kernel
theorem dL_law_803 : decode cL_law 803 = .ok (.aload_n 0, 1) := by decide +kernel
theorem dL_law_804 : decode cL_law 804 = .ok (.iload_n 3, 1) := by decide +kernel
theorem dL_law_805 : decode cL_law 805 = .ok (.iconst 3, 1) := by decide +kernel
theorem dL_law_806 : decode cL_law 806 = .ok (.iadd, 1) := by decide +kernel
theorem dL_law_807 : decode cL_law 807 = .ok (.iaload, 1) := by decide +kernel
theorem dL_law_808 : decode cL_law 808 = .ok (.invokevirtual 90, 3) := by decide +kernel
theorem dL_law_811 : decode cL_law 811 = .ok (.lcmp, 1) := by decide +kernel
theorem dL_law_812 : decode cL_law 812 = .ok (.ifCond .eq 780, 3) := by decide +kernel
theorem dL_law_815 : decode cL_law 815 = .ok (.iconst 0, 1) := by decide +kernel
theorem dL_law_816 : decode cL_law 816 = .ok (.ireturn, 1) := by decide +kernel
theorem dL_law_817 : decode cL_law 817 = .ok (.aload_n 1, 1) := by decide +kernel
theorem dL_law_818 : decode cL_law 818 = .ok (.aload_n 0, 1) := by decide +kernel
theorem dL_law_819 : decode cL_law 819 = .ok (.iload_n 3, 1) := by decide +kernel
theorem dL_law_820 : decode cL_law 820 = .ok (.iconst 1, 1) := by decide +kernel
theorem dL_law_821 : decode cL_law 821 = .ok (.iadd, 1) := by decide +kernel
theorem dL_law_822 : decode cL_law 822 = .ok (.iaload, 1) := by decide +kernel
theorem dL_law_823 : decode cL_law 823 = .ok (.aload_n 0, 1) := by decide +kernel
theorem dL_law_824 : decode cL_law 824 = .ok (.iload_n 3, 1) := by decide +kernel
theorem dL_law_825 : decode cL_law 825 = .ok (.iconst 2, 1) := by decide +kernel
theorem dL_law_826 : decode cL_law 826 = .ok (.iadd, 1) := by decide +kernel
theorem dL_law_827 : decode cL_law 827 = .ok (.iaload, 1) := by decide +kernel
theorem dL_law_828 : decode cL_law 828 = .ok (.invokevirtual 91, 3) := by decide +kernel
theorem dL_law_831 : decode cL_law 831 = .ok (.aload_n 2, 1) := by decide +kernel
theorem dL_law_832 : decode cL_law 832 = .ok (.aload_n 0, 1) := by decide +kernel
theorem dL_law_833 : decode cL_law 833 = .ok (.iload_n 3, 1) := by decide +kernel
theorem dL_law_834 : decode cL_law 834 = .ok (.iconst 1, 1) := by decide +kernel
theorem dL_law_835 : decode cL_law 835 = .ok (.iadd, 1) := by decide +kernel
theorem dL_law_836 : decode cL_law 836 = .ok (.iaload, 1) := by decide +kernel
theorem dL_law_837 : decode cL_law 837 = .ok (.aload_n 0, 1) := by decide +kernel
theorem dL_law_838 : decode cL_law 838 = .ok (.iload_n 3, 1) := by decide +kernel
theorem dL_law_839 : decode cL_law 839 = .ok (.iconst 2, 1) := by decide +kernel
theorem dL_law_840 : decode cL_law 840 = .ok (.iadd, 1) := by decide +kernel
theorem dL_law_841 : decode cL_law 841 = .ok (.iaload, 1) := by decide +kernel
theorem dL_law_842 : decode cL_law 842 = .ok (.invokevirtual 94, 3) := by decide +kernel
theorem dL_law_845 : decode cL_law 845 = .ok (.if_icmp .eq 747, 3) := by decide +kernel
theorem dL_law_848 : decode cL_law 848 = .ok (.iconst 0, 1) := by decide +kernel
theorem dL_law_849 : decode cL_law 849 = .ok (.ireturn, 1) := by decide +kernel
theorem dL_law_850 : decode cL_law 850 = .ok (.aload_n 1, 1) := by decide +kernel
theorem dL_law_851 : decode cL_law 851 = .ok (.invokevirtual 95, 3) := by decide +kernel
theorem dL_law_854 : decode cL_law 854 = .ok (.aload_n 2, 1) := by decide +kernel
theorem dL_law_855 : decode cL_law 855 = .ok (.invokevirtual 98, 3) := by decide +kernel
theorem dL_law_858 : decode cL_law 858 = .ok (.if_icmp .eq 734, 3) := by decide +kernel
theorem dL_law_861 : decode cL_law 861 = .ok (.iconst 0, 1) := by decide +kernel
theorem dL_law_862 : decode cL_law 862 = .ok (.ireturn, 1) := by decide +kernel
theorem dL_law_863 : decode cL_law 863 = .ok (.aload_n 1, 1) := by decide +kernel
theorem dL_law_864 : decode cL_law 864 = .ok (.aload_n 0, 1) := by decide +kernel
theorem dL_law_865 : decode cL_law 865 = .ok (.iload_n 3, 1) := by decide +kernel
theorem dL_law_866 : decode cL_law 866 = .ok (.iconst 1, 1) := by decide +kernel
theorem dL_law_867 : decode cL_law 867 = .ok (.iadd, 1) := by decide +kernel
theorem dL_law_868 : decode cL_law 868 = .ok (.iaload, 1) := by decide +kernel
theorem dL_law_869 : decode cL_law 869 = .ok (.aload_n 0, 1) := by decide +kernel
theorem dL_law_870 : decode cL_law 870 = .ok (.iload_n 3, 1) := by decide +kernel
theorem dL_law_871 : decode cL_law 871 = .ok (.iconst 2, 1) := by decide +kernel
theorem dL_law_872 : decode cL_law 872 = .ok (.iadd, 1) := by decide +kernel
theorem dL_law_873 : decode cL_law 873 = .ok (.iaload, 1) := by decide +kernel
theorem dL_law_874 : decode cL_law 874 = .ok (.invokevirtual 99, 3) := by decide +kernel
theorem dL_law_877 : decode cL_law 877 = .ok (.aload_n 2, 1) := by decide +kernel
theorem dL_law_878 : decode cL_law 878 = .ok (.aload_n 0, 1) := by decide +kernel
theorem dL_law_879 : decode cL_law 879 = .ok (.iload_n 3, 1) := by decide +kernel
theorem dL_law_880 : decode cL_law 880 = .ok (.iconst 1, 1) := by decide +kernel
theorem dL_law_881 : decode cL_law 881 = .ok (.iadd, 1) := by decide +kernel
theorem dL_law_882 : decode cL_law 882 = .ok (.iaload, 1) := by decide +kernel
theorem dL_law_883 : decode cL_law 883 = .ok (.aload_n 0, 1) := by decide +kernel
theorem dL_law_884 : decode cL_law 884 = .ok (.iload_n 3, 1) := by decide +kernel
theorem dL_law_885 : decode cL_law 885 = .ok (.iconst 2, 1) := by decide +kernel
theorem dL_law_886 : decode cL_law 886 = .ok (.iadd, 1) := by decide +kernel
theorem dL_law_887 : decode cL_law 887 = .ok (.iaload, 1) := by decide +kernel
theorem dL_law_888 : decode cL_law 888 = .ok (.invokevirtual 102, 3) := by decide +kernel
theorem dL_law_891 : decode cL_law 891 = .ok (.if_icmp .eq 701, 3) := by decide +kernel
theorem dL_law_894 : decode cL_law 894 = .ok (.iconst 0, 1) := by decide +kernel
theorem dL_law_895 : decode cL_law 895 = .ok (.ireturn, 1) := by decide +kernel
theorem dL_law_896 : decode cL_law 896 = .ok (.aload_n 1, 1) := by decide +kernel
theorem dL_law_897 : decode cL_law 897 = .ok (.aload_n 0, 1) := by decide +kernel
theorem dL_law_898 : decode cL_law 898 = .ok (.iload_n 3, 1) := by decide +kernel
theorem dL_law_899 : decode cL_law 899 = .ok (.iconst 1, 1) := by decide +kernel
theorem dL_law_900 : decode cL_law 900 = .ok (.iadd, 1) := by decide +kernel
theorem dL_law_901 : decode cL_law 901 = .ok (.iaload, 1) := by decide +kernel
theorem dL_law_902 : decode cL_law 902 = .ok (.aload_n 0, 1) := by decide +kernel
theorem dL_law_903 : decode cL_law 903 = .ok (.iload_n 3, 1) := by decide +kernel
theorem dL_law_904 : decode cL_law 904 = .ok (.iconst 2, 1) := by decide +kernel
theorem dL_law_905 : decode cL_law 905 = .ok (.iadd, 1) := by decide +kernel
theorem dL_law_906 : decode cL_law 906 = .ok (.iaload, 1) := by decide +kernel
theorem dL_law_907 : decode cL_law 907 = .ok (.invokevirtual 103, 3) := by decide +kernel
theorem dL_law_910 : decode cL_law 910 = .ok (.aload_n 2, 1) := by decide +kernel
theorem dL_law_911 : decode cL_law 911 = .ok (.aload_n 0, 1) := by decide +kernel
theorem dL_law_912 : decode cL_law 912 = .ok (.iload_n 3, 1) := by decide +kernel
theorem dL_law_913 : decode cL_law 913 = .ok (.iconst 1, 1) := by decide +kernel
theorem dL_law_914 : decode cL_law 914 = .ok (.iadd, 1) := by decide +kernel
theorem dL_law_915 : decode cL_law 915 = .ok (.iaload, 1) := by decide +kernel
theorem dL_law_916 : decode cL_law 916 = .ok (.aload_n 0, 1) := by decide +kernel
theorem dL_law_917 : decode cL_law 917 = .ok (.iload_n 3, 1) := by decide +kernel
theorem dL_law_918 : decode cL_law 918 = .ok (.iconst 2, 1) := by decide +kernel
theorem dL_law_919 : decode cL_law 919 = .ok (.iadd, 1) := by decide +kernel
theorem dL_law_920 : decode cL_law 920 = .ok (.iaload, 1) := by decide +kernel
theorem dL_law_921 : decode cL_law 921 = .ok (.invokevirtual 106, 3) := by decide +kernel
theorem dL_law_924 : decode cL_law 924 = .ok (.if_icmp .eq 668, 3) := by decide +kernel
theorem dL_law_927 : decode cL_law 927 = .ok (.iconst 0, 1) := by decide +kernel
theorem dL_law_928 : decode cL_law 928 = .ok (.ireturn, 1) := by decide +kernel
theorem dL_law_929 : decode cL_law 929 = .ok (.aload_n 1, 1) := by decide +kernel
theorem dL_law_930 : decode cL_law 930 = .ok (.aload_n 0, 1) := by decide +kernel
theorem dL_law_931 : decode cL_law 931 = .ok (.iload_n 3, 1) := by decide +kernel
theorem dL_law_932 : decode cL_law 932 = .ok (.iconst 1, 1) := by decide +kernel
theorem dL_law_933 : decode cL_law 933 = .ok (.iadd, 1) := by decide +kernel
theorem dL_law_934 : decode cL_law 934 = .ok (.iaload, 1) := by decide +kernel
theorem dL_law_935 : decode cL_law 935 = .ok (.aload_n 0, 1) := by decide +kernel
theorem dL_law_936 : decode cL_law 936 = .ok (.iload_n 3, 1) := by decide +kernel
theorem dL_law_937 : decode cL_law 937 = .ok (.iconst 2, 1) := by decide +kernel
theorem dL_law_938 : decode cL_law 938 = .ok (.iadd, 1) := by decide +kernel
theorem dL_law_939 : decode cL_law 939 = .ok (.iaload, 1) := by decide +kernel
theorem dL_law_940 : decode cL_law 940 = .ok (.aload_n 0, 1) := by decide +kernel
theorem dL_law_941 : decode cL_law 941 = .ok (.iload_n 3, 1) := by decide +kernel
theorem dL_law_942 : decode cL_law 942 = .ok (.iconst 3, 1) := by decide +kernel
theorem dL_law_943 : decode cL_law 943 = .ok (.iadd, 1) := by decide +kernel
theorem dL_law_944 : decode cL_law 944 = .ok (.iaload, 1) := by decide +kernel
theorem dL_law_945 : decode cL_law 945 = .ok (.invokevirtual 107, 3) := by decide +kernel
theorem dL_law_948 : decode cL_law 948 = .ok (.aload_n 2, 1) := by decide +kernel
theorem dL_law_949 : decode cL_law 949 = .ok (.aload_n 0, 1) := by decide +kernel
theorem dL_law_950 : decode cL_law 950 = .ok (.iload_n 3, 1) := by decide +kernel
theorem dL_law_951 : decode cL_law 951 = .ok (.iconst 1, 1) := by decide +kernel
theorem dL_law_952 : decode cL_law 952 = .ok (.iadd, 1) := by decide +kernel
theorem dL_law_953 : decode cL_law 953 = .ok (.iaload, 1) := by decide +kernel
theorem dL_law_954 : decode cL_law 954 = .ok (.aload_n 0, 1) := by decide +kernel
theorem dL_law_955 : decode cL_law 955 = .ok (.iload_n 3, 1) := by decide +kernel
theorem dL_law_956 : decode cL_law 956 = .ok (.iconst 2, 1) := by decide +kernel
theorem dL_law_957 : decode cL_law 957 = .ok (.iadd, 1) := by decide +kernel
theorem dL_law_958 : decode cL_law 958 = .ok (.iaload, 1) := by decide +kernel
theorem dL_law_959 : decode cL_law 959 = .ok (.aload_n 0, 1) := by decide +kernel
theorem dL_law_960 : decode cL_law 960 = .ok (.iload_n 3, 1) := by decide +kernel
theorem dL_law_961 : decode cL_law 961 = .ok (.iconst 3, 1) := by decide +kernel
theorem dL_law_962 : decode cL_law 962 = .ok (.iadd, 1) := by decide +kernel
theorem dL_law_963 : decode cL_law 963 = .ok (.iaload, 1) := by decide +kernel
theorem dL_law_964 : decode cL_law 964 = .ok (.invokevirtual 110, 3) := by decide +kernel
theorem dL_law_967 : decode cL_law 967 = .ok (.if_icmp .eq 625, 3) := by decide +kernel
theorem dL_law_970 : decode cL_law 970 = .ok (.iconst 0, 1) := by decide +kernel
theorem dL_law_971 : decode cL_law 971 = .ok (.ireturn, 1) := by decide +kernel
theorem dL_law_972 : decode cL_law 972 = .ok (.aload_n 1, 1) := by decide +kernel
theorem dL_law_973 : decode cL_law 973 = .ok (.invokevirtual 111, 3) := by decide +kernel
theorem dL_law_976 : decode cL_law 976 = .ok (.aload_n 2, 1) := by decide +kernel
theorem dL_law_977 : decode cL_law 977 = .ok (.invokevirtual 114, 3) := by decide +kernel
theorem dL_law_980 : decode cL_law 980 = .ok (.if_icmp .eq 612, 3) := by decide +kernel
theorem dL_law_983 : decode cL_law 983 = .ok (.iconst 0, 1) := by decide +kernel
theorem dL_law_984 : decode cL_law 984 = .ok (.ireturn, 1) := by decide +kernel
theorem dL_law_985 : decode cL_law 985 = .ok (.aload_n 1, 1) := by decide +kernel
theorem dL_law_986 : decode cL_law 986 = .ok (.aload_n 0, 1) := by decide +kernel
theorem dL_law_987 : decode cL_law 987 = .ok (.iload_n 3, 1) := by decide +kernel
theorem dL_law_988 : decode cL_law 988 = .ok (.iconst 1, 1) := by decide +kernel
theorem dL_law_989 : decode cL_law 989 = .ok (.iadd, 1) := by decide +kernel
theorem dL_law_990 : decode cL_law 990 = .ok (.iaload, 1) := by decide +kernel
theorem dL_law_991 : decode cL_law 991 = .ok (.aload_n 0, 1) := by decide +kernel
theorem dL_law_992 : decode cL_law 992 = .ok (.iload_n 3, 1) := by decide +kernel
theorem dL_law_993 : decode cL_law 993 = .ok (.iconst 2, 1) := by decide +kernel
theorem dL_law_994 : decode cL_law 994 = .ok (.iadd, 1) := by decide +kernel
theorem dL_law_995 : decode cL_law 995 = .ok (.iaload, 1) := by decide +kernel
theorem dL_law_996 : decode cL_law 996 = .ok (.invokevirtual 115, 3) := by decide +kernel
theorem dL_law_999 : decode cL_law 999 = .ok (.aload_n 2, 1) := by decide +kernel
theorem dL_law_1000 : decode cL_law 1000 = .ok (.aload_n 0, 1) := by decide +kernel
theorem dL_law_1001 : decode cL_law 1001 = .ok (.iload_n 3, 1) := by decide +kernel
theorem dL_law_1002 : decode cL_law 1002 = .ok (.iconst 1, 1) := by decide +kernel
theorem dL_law_1003 : decode cL_law 1003 = .ok (.iadd, 1) := by decide +kernel
theorem dL_law_1004 : decode cL_law 1004 = .ok (.iaload, 1) := by decide +kernel
theorem dL_law_1005 : decode cL_law 1005 = .ok (.aload_n 0, 1) := by decide +kernel
theorem dL_law_1006 : decode cL_law 1006 = .ok (.iload_n 3, 1) := by decide +kernel
theorem dL_law_1007 : decode cL_law 1007 = .ok (.iconst 2, 1) := by decide +kernel
theorem dL_law_1008 : decode cL_law 1008 = .ok (.iadd, 1) := by decide +kernel
theorem dL_law_1009 : decode cL_law 1009 = .ok (.iaload, 1) := by decide +kernel
theorem dL_law_1010 : decode cL_law 1010 = .ok (.invokevirtual 118, 3) := by decide +kernel
theorem dL_law_1013 : decode cL_law 1013 = .ok (.if_icmp .eq 579, 3) := by decide +kernel
theorem dL_law_1016 : decode cL_law 1016 = .ok (.iconst 0, 1) := by decide +kernel
theorem dL_law_1017 : decode cL_law 1017 = .ok (.ireturn, 1) := by decide +kernel
theorem dL_law_1018 : decode cL_law 1018 = .ok (.aload_n 1, 1) := by decide +kernel
theorem dL_law_1019 : decode cL_law 1019 = .ok (.aload_n 0, 1) := by decide +kernel
theorem dL_law_1020 : decode cL_law 1020 = .ok (.iload_n 3, 1) := by decide +kernel
theorem dL_law_1021 : decode cL_law 1021 = .ok (.iconst 1, 1) := by decide +kernel
theorem dL_law_1022 : decode cL_law 1022 = .ok (.iadd, 1) := by decide +kernel
theorem dL_law_1023 : decode cL_law 1023 = .ok (.iaload, 1) := by decide +kernel
theorem dL_law_1024 : decode cL_law 1024 = .ok (.aload_n 0, 1) := by decide +kernel
theorem dL_law_1025 : decode cL_law 1025 = .ok (.iload_n 3, 1) := by decide +kernel
theorem dL_law_1026 : decode cL_law 1026 = .ok (.iconst 2, 1) := by decide +kernel
theorem dL_law_1027 : decode cL_law 1027 = .ok (.iadd, 1) := by decide +kernel
theorem dL_law_1028 : decode cL_law 1028 = .ok (.iaload, 1) := by decide +kernel
theorem dL_law_1029 : decode cL_law 1029 = .ok (.invokevirtual 119, 3) := by decide +kernel
theorem dL_law_1032 : decode cL_law 1032 = .ok (.aload_n 2, 1) := by decide +kernel
theorem dL_law_1033 : decode cL_law 1033 = .ok (.aload_n 0, 1) := by decide +kernel
theorem dL_law_1034 : decode cL_law 1034 = .ok (.iload_n 3, 1) := by decide +kernel
theorem dL_law_1035 : decode cL_law 1035 = .ok (.iconst 1, 1) := by decide +kernel
theorem dL_law_1036 : decode cL_law 1036 = .ok (.iadd, 1) := by decide +kernel
theorem dL_law_1037 : decode cL_law 1037 = .ok (.iaload, 1) := by decide +kernel
theorem dL_law_1038 : decode cL_law 1038 = .ok (.aload_n 0, 1) := by decide +kernel
theorem dL_law_1039 : decode cL_law 1039 = .ok (.iload_n 3, 1) := by decide +kernel
theorem dL_law_1040 : decode cL_law 1040 = .ok (.iconst 2, 1) := by decide +kernel
theorem dL_law_1041 : decode cL_law 1041 = .ok (.iadd, 1) := by decide +kernel
theorem dL_law_1042 : decode cL_law 1042 = .ok (.iaload, 1) := by decide +kernel
theorem dL_law_1043 : decode cL_law 1043 = .ok (.invokevirtual 122, 3) := by decide +kernel
theorem dL_law_1046 : decode cL_law 1046 = .ok (.if_icmp .eq 546, 3) := by decide +kernel
theorem dL_law_1049 : decode cL_law 1049 = .ok (.iconst 0, 1) := by decide +kernel
theorem dL_law_1050 : decode cL_law 1050 = .ok (.ireturn, 1) := by decide +kernel
theorem dL_law_1051 : decode cL_law 1051 = .ok (.aload_n 1, 1) := by decide +kernel
theorem dL_law_1052 : decode cL_law 1052 = .ok (.aload_n 0, 1) := by decide +kernel
theorem dL_law_1053 : decode cL_law 1053 = .ok (.iload_n 3, 1) := by decide +kernel
theorem dL_law_1054 : decode cL_law 1054 = .ok (.iconst 1, 1) := by decide +kernel
theorem dL_law_1055 : decode cL_law 1055 = .ok (.iadd, 1) := by decide +kernel
theorem dL_law_1056 : decode cL_law 1056 = .ok (.iaload, 1) := by decide +kernel
theorem dL_law_1057 : decode cL_law 1057 = .ok (.aload_n 0, 1) := by decide +kernel
theorem dL_law_1058 : decode cL_law 1058 = .ok (.iload_n 3, 1) := by decide +kernel
theorem dL_law_1059 : decode cL_law 1059 = .ok (.iconst 2, 1) := by decide +kernel
theorem dL_law_1060 : decode cL_law 1060 = .ok (.iadd, 1) := by decide +kernel
theorem dL_law_1061 : decode cL_law 1061 = .ok (.iaload, 1) := by decide +kernel
theorem dL_law_1062 : decode cL_law 1062 = .ok (.aload_n 0, 1) := by decide +kernel
theorem dL_law_1063 : decode cL_law 1063 = .ok (.iload_n 3, 1) := by decide +kernel
theorem dL_law_1064 : decode cL_law 1064 = .ok (.iconst 3, 1) := by decide +kernel
theorem dL_law_1065 : decode cL_law 1065 = .ok (.iadd, 1) := by decide +kernel
theorem dL_law_1066 : decode cL_law 1066 = .ok (.iaload, 1) := by decide +kernel
theorem dL_law_1067 : decode cL_law 1067 = .ok (.invokevirtual 123, 3) := by decide +kernel
theorem dL_law_1070 : decode cL_law 1070 = .ok (.aload_n 2, 1) := by decide +kernel
theorem dL_law_1071 : decode cL_law 1071 = .ok (.aload_n 0, 1) := by decide +kernel
theorem dL_law_1072 : decode cL_law 1072 = .ok (.iload_n 3, 1) := by decide +kernel
theorem dL_law_1073 : decode cL_law 1073 = .ok (.iconst 1, 1) := by decide +kernel
theorem dL_law_1074 : decode cL_law 1074 = .ok (.iadd, 1) := by decide +kernel
theorem dL_law_1075 : decode cL_law 1075 = .ok (.iaload, 1) := by decide +kernel
theorem dL_law_1076 : decode cL_law 1076 = .ok (.aload_n 0, 1) := by decide +kernel
theorem dL_law_1077 : decode cL_law 1077 = .ok (.iload_n 3, 1) := by decide +kernel
theorem dL_law_1078 : decode cL_law 1078 = .ok (.iconst 2, 1) := by decide +kernel
theorem dL_law_1079 : decode cL_law 1079 = .ok (.iadd, 1) := by decide +kernel
theorem dL_law_1080 : decode cL_law 1080 = .ok (.iaload, 1) := by decide +kernel
theorem dL_law_1081 : decode cL_law 1081 = .ok (.aload_n 0, 1) := by decide +kernel
theorem dL_law_1082 : decode cL_law 1082 = .ok (.iload_n 3, 1) := by decide +kernel
theorem dL_law_1083 : decode cL_law 1083 = .ok (.iconst 3, 1) := by decide +kernel
theorem dL_law_1084 : decode cL_law 1084 = .ok (.iadd, 1) := by decide +kernel
theorem dL_law_1085 : decode cL_law 1085 = .ok (.iaload, 1) := by decide +kernel
theorem dL_law_1086 : decode cL_law 1086 = .ok (.invokevirtual 126, 3) := by decide +kernel
theorem dL_law_1089 : decode cL_law 1089 = .ok (.if_icmp .eq 503, 3) := by decide +kernel
theorem dL_law_1092 : decode cL_law 1092 = .ok (.iconst 0, 1) := by decide +kernel
theorem dL_law_1093 : decode cL_law 1093 = .ok (.ireturn, 1) := by decide +kernel
theorem dL_law_1094 : decode cL_law 1094 = .ok (.aload_n 1, 1) := by decide +kernel
theorem dL_law_1095 : decode cL_law 1095 = .ok (.aload_n 0, 1) := by decide +kernel
theorem dL_law_1096 : decode cL_law 1096 = .ok (.iload_n 3, 1) := by decide +kernel
theorem dL_law_1097 : decode cL_law 1097 = .ok (.iconst 1, 1) := by decide +kernel
theorem dL_law_1098 : decode cL_law 1098 = .ok (.iadd, 1) := by decide +kernel
theorem dL_law_1099 : decode cL_law 1099 = .ok (.iaload, 1) := by decide +kernel
theorem dL_law_1100 : decode cL_law 1100 = .ok (.aload_n 0, 1) := by decide +kernel
theorem dL_law_1101 : decode cL_law 1101 = .ok (.iload_n 3, 1) := by decide +kernel
theorem dL_law_1102 : decode cL_law 1102 = .ok (.iconst 2, 1) := by decide +kernel
theorem dL_law_1103 : decode cL_law 1103 = .ok (.iadd, 1) := by decide +kernel
theorem dL_law_1104 : decode cL_law 1104 = .ok (.iaload, 1) := by decide +kernel
theorem dL_law_1105 : decode cL_law 1105 = .ok (.aload_n 0, 1) := by decide +kernel
theorem dL_law_1106 : decode cL_law 1106 = .ok (.iload_n 3, 1) := by decide +kernel
theorem dL_law_1107 : decode cL_law 1107 = .ok (.iconst 3, 1) := by decide +kernel
theorem dL_law_1108 : decode cL_law 1108 = .ok (.iadd, 1) := by decide +kernel
theorem dL_law_1109 : decode cL_law 1109 = .ok (.iaload, 1) := by decide +kernel
theorem dL_law_1110 : decode cL_law 1110 = .ok (.aload_n 0, 1) := by decide +kernel
theorem dL_law_1111 : decode cL_law 1111 = .ok (.iload_n 3, 1) := by decide +kernel
theorem dL_law_1112 : decode cL_law 1112 = .ok (.iconst 4, 1) := by decide +kernel
theorem dL_law_1113 : decode cL_law 1113 = .ok (.iadd, 1) := by decide +kernel
theorem dL_law_1114 : decode cL_law 1114 = .ok (.iaload, 1) := by decide +kernel
theorem dL_law_1115 : decode cL_law 1115 = .ok (.invokevirtual 127, 3) := by decide +kernel
theorem dL_law_1118 : decode cL_law 1118 = .ok (.aload_n 2, 1) := by decide +kernel
theorem dL_law_1119 : decode cL_law 1119 = .ok (.aload_n 0, 1) := by decide +kernel
theorem dL_law_1120 : decode cL_law 1120 = .ok (.iload_n 3, 1) := by decide +kernel
theorem dL_law_1121 : decode cL_law 1121 = .ok (.iconst 1, 1) := by decide +kernel
theorem dL_law_1122 : decode cL_law 1122 = .ok (.iadd, 1) := by decide +kernel
theorem dL_law_1123 : decode cL_law 1123 = .ok (.iaload, 1) := by decide +kernel
theorem dL_law_1124 : decode cL_law 1124 = .ok (.aload_n 0, 1) := by decide +kernel
theorem dL_law_1125 : decode cL_law 1125 = .ok (.iload_n 3, 1) := by decide +kernel
theorem dL_law_1126 : decode cL_law 1126 = .ok (.iconst 2, 1) := by decide +kernel
theorem dL_law_1127 : decode cL_law 1127 = .ok (.iadd, 1) := by decide +kernel
theorem dL_law_1128 : decode cL_law 1128 = .ok (.iaload, 1) := by decide +kernel
theorem dL_law_1129 : decode cL_law 1129 = .ok (.aload_n 0, 1) := by decide +kernel
theorem dL_law_1130 : decode cL_law 1130 = .ok (.iload_n 3, 1) := by decide +kernel
theorem dL_law_1131 : decode cL_law 1131 = .ok (.iconst 3, 1) := by decide +kernel
theorem dL_law_1132 : decode cL_law 1132 = .ok (.iadd, 1) := by decide +kernel
theorem dL_law_1133 : decode cL_law 1133 = .ok (.iaload, 1) := by decide +kernel
theorem dL_law_1134 : decode cL_law 1134 = .ok (.aload_n 0, 1) := by decide +kernel
theorem dL_law_1135 : decode cL_law 1135 = .ok (.iload_n 3, 1) := by decide +kernel
theorem dL_law_1136 : decode cL_law 1136 = .ok (.iconst 4, 1) := by decide +kernel
theorem dL_law_1137 : decode cL_law 1137 = .ok (.iadd, 1) := by decide +kernel
theorem dL_law_1138 : decode cL_law 1138 = .ok (.iaload, 1) := by decide +kernel
theorem dL_law_1139 : decode cL_law 1139 = .ok (.invokevirtual 131, 3) := by decide +kernel
theorem dL_law_1142 : decode cL_law 1142 = .ok (.lcmp, 1) := by decide +kernel
theorem dL_law_1143 : decode cL_law 1143 = .ok (.ifCond .eq 449, 3) := by decide +kernel
theorem dL_law_1146 : decode cL_law 1146 = .ok (.iconst 0, 1) := by decide +kernel
theorem dL_law_1147 : decode cL_law 1147 = .ok (.ireturn, 1) := by decide +kernel
theorem dL_law_1148 : decode cL_law 1148 = .ok (.aload_n 1, 1) := by decide +kernel
theorem dL_law_1149 : decode cL_law 1149 = .ok (.aload_n 0, 1) := by decide +kernel
theorem dL_law_1150 : decode cL_law 1150 = .ok (.iload_n 3, 1) := by decide +kernel
theorem dL_law_1151 : decode cL_law 1151 = .ok (.iconst 1, 1) := by decide +kernel
theorem dL_law_1152 : decode cL_law 1152 = .ok (.iadd, 1) := by decide +kernel
theorem dL_law_1153 : decode cL_law 1153 = .ok (.iaload, 1) := by decide +kernel
theorem dL_law_1154 : decode cL_law 1154 = .ok (.invokevirtual 132, 3) := by decide +kernel
theorem dL_law_1157 : decode cL_law 1157 = .ok (.aload_n 2, 1) := by decide +kernel
theorem dL_law_1158 : decode cL_law 1158 = .ok (.aload_n 0, 1) := by decide +kernel
theorem dL_law_1159 : decode cL_law 1159 = .ok (.iload_n 3, 1) := by decide +kernel
theorem dL_law_1160 : decode cL_law 1160 = .ok (.iconst 1, 1) := by decide +kernel
theorem dL_law_1161 : decode cL_law 1161 = .ok (.iadd, 1) := by decide +kernel
theorem dL_law_1162 : decode cL_law 1162 = .ok (.iaload, 1) := by decide +kernel
theorem dL_law_1163 : decode cL_law 1163 = .ok (.invokevirtual 135, 3) := by decide +kernel
theorem dL_law_1166 : decode cL_law 1166 = .ok (.if_icmp .eq 426, 3) := by decide +kernel
theorem dL_law_1169 : decode cL_law 1169 = .ok (.iconst 0, 1) := by decide +kernel
theorem dL_law_1170 : decode cL_law 1170 = .ok (.ireturn, 1) := by decide +kernel
theorem dL_law_1171 : decode cL_law 1171 = .ok (.aload_n 1, 1) := by decide +kernel
theorem dL_law_1172 : decode cL_law 1172 = .ok (.aload_n 0, 1) := by decide +kernel
theorem dL_law_1173 : decode cL_law 1173 = .ok (.iload_n 3, 1) := by decide +kernel
theorem dL_law_1174 : decode cL_law 1174 = .ok (.iconst 1, 1) := by decide +kernel
theorem dL_law_1175 : decode cL_law 1175 = .ok (.iadd, 1) := by decide +kernel
theorem dL_law_1176 : decode cL_law 1176 = .ok (.iaload, 1) := by decide +kernel
theorem dL_law_1177 : decode cL_law 1177 = .ok (.aload_n 0, 1) := by decide +kernel
theorem dL_law_1178 : decode cL_law 1178 = .ok (.iload_n 3, 1) := by decide +kernel
theorem dL_law_1179 : decode cL_law 1179 = .ok (.iconst 2, 1) := by decide +kernel
theorem dL_law_1180 : decode cL_law 1180 = .ok (.iadd, 1) := by decide +kernel
theorem dL_law_1181 : decode cL_law 1181 = .ok (.iaload, 1) := by decide +kernel
theorem dL_law_1182 : decode cL_law 1182 = .ok (.invokevirtual 136, 3) := by decide +kernel
theorem dL_law_1185 : decode cL_law 1185 = .ok (.aload_n 2, 1) := by decide +kernel
theorem dL_law_1186 : decode cL_law 1186 = .ok (.aload_n 0, 1) := by decide +kernel
theorem dL_law_1187 : decode cL_law 1187 = .ok (.iload_n 3, 1) := by decide +kernel
theorem dL_law_1188 : decode cL_law 1188 = .ok (.iconst 1, 1) := by decide +kernel
theorem dL_law_1189 : decode cL_law 1189 = .ok (.iadd, 1) := by decide +kernel
theorem dL_law_1190 : decode cL_law 1190 = .ok (.iaload, 1) := by decide +kernel
theorem dL_law_1191 : decode cL_law 1191 = .ok (.aload_n 0, 1) := by decide +kernel
theorem dL_law_1192 : decode cL_law 1192 = .ok (.iload_n 3, 1) := by decide +kernel
theorem dL_law_1193 : decode cL_law 1193 = .ok (.iconst 2, 1) := by decide +kernel
theorem dL_law_1194 : decode cL_law 1194 = .ok (.iadd, 1) := by decide +kernel
theorem dL_law_1195 : decode cL_law 1195 = .ok (.iaload, 1) := by decide +kernel
theorem dL_law_1196 : decode cL_law 1196 = .ok (.invokevirtual 139, 3) := by decide +kernel
theorem dL_law_1199 : decode cL_law 1199 = .ok (.if_icmp .eq 393, 3) := by decide +kernel
theorem dL_law_1202 : decode cL_law 1202 = .ok (.iconst 0, 1) := by decide +kernel
theorem dL_law_1203 : decode cL_law 1203 = .ok (.ireturn, 1) := by decide +kernel
theorem dL_law_1204 : decode cL_law 1204 = .ok (.aload_n 1, 1) := by decide +kernel
theorem dL_law_1205 : decode cL_law 1205 = .ok (.aload_n 0, 1) := by decide +kernel
theorem dL_law_1206 : decode cL_law 1206 = .ok (.iload_n 3, 1) := by decide +kernel
theorem dL_law_1207 : decode cL_law 1207 = .ok (.iconst 1, 1) := by decide +kernel
theorem dL_law_1208 : decode cL_law 1208 = .ok (.iadd, 1) := by decide +kernel
theorem dL_law_1209 : decode cL_law 1209 = .ok (.iaload, 1) := by decide +kernel
theorem dL_law_1210 : decode cL_law 1210 = .ok (.aload_n 0, 1) := by decide +kernel
theorem dL_law_1211 : decode cL_law 1211 = .ok (.iload_n 3, 1) := by decide +kernel
theorem dL_law_1212 : decode cL_law 1212 = .ok (.iconst 2, 1) := by decide +kernel
theorem dL_law_1213 : decode cL_law 1213 = .ok (.iadd, 1) := by decide +kernel
theorem dL_law_1214 : decode cL_law 1214 = .ok (.iaload, 1) := by decide +kernel
theorem dL_law_1215 : decode cL_law 1215 = .ok (.aload_n 0, 1) := by decide +kernel
theorem dL_law_1216 : decode cL_law 1216 = .ok (.iload_n 3, 1) := by decide +kernel
theorem dL_law_1217 : decode cL_law 1217 = .ok (.iconst 3, 1) := by decide +kernel
theorem dL_law_1218 : decode cL_law 1218 = .ok (.iadd, 1) := by decide +kernel
theorem dL_law_1219 : decode cL_law 1219 = .ok (.iaload, 1) := by decide +kernel
theorem dL_law_1220 : decode cL_law 1220 = .ok (.invokevirtual 140, 3) := by decide +kernel
theorem dL_law_1223 : decode cL_law 1223 = .ok (.aload_n 2, 1) := by decide +kernel
theorem dL_law_1224 : decode cL_law 1224 = .ok (.aload_n 0, 1) := by decide +kernel
theorem dL_law_1225 : decode cL_law 1225 = .ok (.iload_n 3, 1) := by decide +kernel
theorem dL_law_1226 : decode cL_law 1226 = .ok (.iconst 1, 1) := by decide +kernel
theorem dL_law_1227 : decode cL_law 1227 = .ok (.iadd, 1) := by decide +kernel
theorem dL_law_1228 : decode cL_law 1228 = .ok (.iaload, 1) := by decide +kernel
theorem dL_law_1229 : decode cL_law 1229 = .ok (.aload_n 0, 1) := by decide +kernel
theorem dL_law_1230 : decode cL_law 1230 = .ok (.iload_n 3, 1) := by decide +kernel
theorem dL_law_1231 : decode cL_law 1231 = .ok (.iconst 2, 1) := by decide +kernel
theorem dL_law_1232 : decode cL_law 1232 = .ok (.iadd, 1) := by decide +kernel
theorem dL_law_1233 : decode cL_law 1233 = .ok (.iaload, 1) := by decide +kernel
theorem dL_law_1234 : decode cL_law 1234 = .ok (.aload_n 0, 1) := by decide +kernel
theorem dL_law_1235 : decode cL_law 1235 = .ok (.iload_n 3, 1) := by decide +kernel
theorem dL_law_1236 : decode cL_law 1236 = .ok (.iconst 3, 1) := by decide +kernel
theorem dL_law_1237 : decode cL_law 1237 = .ok (.iadd, 1) := by decide +kernel
theorem dL_law_1238 : decode cL_law 1238 = .ok (.iaload, 1) := by decide +kernel
theorem dL_law_1239 : decode cL_law 1239 = .ok (.invokevirtual 143, 3) := by decide +kernel
theorem dL_law_1242 : decode cL_law 1242 = .ok (.if_icmp .eq 350, 3) := by decide +kernel
theorem dL_law_1245 : decode cL_law 1245 = .ok (.iconst 0, 1) := by decide +kernel
theorem dL_law_1246 : decode cL_law 1246 = .ok (.ireturn, 1) := by decide +kernel
theorem dL_law_1247 : decode cL_law 1247 = .ok (.aload_n 1, 1) := by decide +kernel
theorem dL_law_1248 : decode cL_law 1248 = .ok (.invokevirtual 144, 3) := by decide +kernel
theorem dL_law_1251 : decode cL_law 1251 = .ok (.aload_n 2, 1) := by decide +kernel
theorem dL_law_1252 : decode cL_law 1252 = .ok (.invokevirtual 147, 3) := by decide +kernel
theorem dL_law_1255 : decode cL_law 1255 = .ok (.if_icmp .eq 337, 3) := by decide +kernel
theorem dL_law_1258 : decode cL_law 1258 = .ok (.iconst 0, 1) := by decide +kernel
theorem dL_law_1259 : decode cL_law 1259 = .ok (.ireturn, 1) := by decide +kernel
theorem dL_law_1260 : decode cL_law 1260 = .ok (.aload_n 1, 1) := by decide +kernel
theorem dL_law_1261 : decode cL_law 1261 = .ok (.aload_n 0, 1) := by decide +kernel
theorem dL_law_1262 : decode cL_law 1262 = .ok (.iload_n 3, 1) := by decide +kernel
theorem dL_law_1263 : decode cL_law 1263 = .ok (.iconst 1, 1) := by decide +kernel
theorem dL_law_1264 : decode cL_law 1264 = .ok (.iadd, 1) := by decide +kernel
theorem dL_law_1265 : decode cL_law 1265 = .ok (.iaload, 1) := by decide +kernel
theorem dL_law_1266 : decode cL_law 1266 = .ok (.aload_n 0, 1) := by decide +kernel
theorem dL_law_1267 : decode cL_law 1267 = .ok (.iload_n 3, 1) := by decide +kernel
theorem dL_law_1268 : decode cL_law 1268 = .ok (.iconst 2, 1) := by decide +kernel
theorem dL_law_1269 : decode cL_law 1269 = .ok (.iadd, 1) := by decide +kernel
theorem dL_law_1270 : decode cL_law 1270 = .ok (.iaload, 1) := by decide +kernel
theorem dL_law_1271 : decode cL_law 1271 = .ok (.invokevirtual 148, 3) := by decide +kernel
theorem dL_law_1274 : decode cL_law 1274 = .ok (.aload_n 2, 1) := by decide +kernel
theorem dL_law_1275 : decode cL_law 1275 = .ok (.aload_n 0, 1) := by decide +kernel
theorem dL_law_1276 : decode cL_law 1276 = .ok (.iload_n 3, 1) := by decide +kernel
theorem dL_law_1277 : decode cL_law 1277 = .ok (.iconst 1, 1) := by decide +kernel
theorem dL_law_1278 : decode cL_law 1278 = .ok (.iadd, 1) := by decide +kernel
theorem dL_law_1279 : decode cL_law 1279 = .ok (.iaload, 1) := by decide +kernel
theorem dL_law_1280 : decode cL_law 1280 = .ok (.aload_n 0, 1) := by decide +kernel
theorem dL_law_1281 : decode cL_law 1281 = .ok (.iload_n 3, 1) := by decide +kernel
theorem dL_law_1282 : decode cL_law 1282 = .ok (.iconst 2, 1) := by decide +kernel
theorem dL_law_1283 : decode cL_law 1283 = .ok (.iadd, 1) := by decide +kernel
theorem dL_law_1284 : decode cL_law 1284 = .ok (.iaload, 1) := by decide +kernel
theorem dL_law_1285 : decode cL_law 1285 = .ok (.invokevirtual 151, 3) := by decide +kernel
theorem dL_law_1288 : decode cL_law 1288 = .ok (.if_icmp .eq 304, 3) := by decide +kernel
theorem dL_law_1291 : decode cL_law 1291 = .ok (.iconst 0, 1) := by decide +kernel
theorem dL_law_1292 : decode cL_law 1292 = .ok (.ireturn, 1) := by decide +kernel
theorem dL_law_1293 : decode cL_law 1293 = .ok (.aload_n 1, 1) := by decide +kernel
theorem dL_law_1294 : decode cL_law 1294 = .ok (.aload_n 0, 1) := by decide +kernel
theorem dL_law_1295 : decode cL_law 1295 = .ok (.iload_n 3, 1) := by decide +kernel
theorem dL_law_1296 : decode cL_law 1296 = .ok (.iconst 1, 1) := by decide +kernel
theorem dL_law_1297 : decode cL_law 1297 = .ok (.iadd, 1) := by decide +kernel
theorem dL_law_1298 : decode cL_law 1298 = .ok (.iaload, 1) := by decide +kernel
theorem dL_law_1299 : decode cL_law 1299 = .ok (.invokevirtual 152, 3) := by decide +kernel
theorem dL_law_1302 : decode cL_law 1302 = .ok (.aload_n 2, 1) := by decide +kernel
theorem dL_law_1303 : decode cL_law 1303 = .ok (.aload_n 0, 1) := by decide +kernel
theorem dL_law_1304 : decode cL_law 1304 = .ok (.iload_n 3, 1) := by decide +kernel
theorem dL_law_1305 : decode cL_law 1305 = .ok (.iconst 1, 1) := by decide +kernel
theorem dL_law_1306 : decode cL_law 1306 = .ok (.iadd, 1) := by decide +kernel
theorem dL_law_1307 : decode cL_law 1307 = .ok (.iaload, 1) := by decide +kernel
theorem dL_law_1308 : decode cL_law 1308 = .ok (.invokevirtual 155, 3) := by decide +kernel
theorem dL_law_1311 : decode cL_law 1311 = .ok (.if_icmp .eq 281, 3) := by decide +kernel
theorem dL_law_1314 : decode cL_law 1314 = .ok (.iconst 0, 1) := by decide +kernel
theorem dL_law_1315 : decode cL_law 1315 = .ok (.ireturn, 1) := by decide +kernel
theorem dL_law_1316 : decode cL_law 1316 = .ok (.aload_n 1, 1) := by decide +kernel
theorem dL_law_1317 : decode cL_law 1317 = .ok (.aload_n 0, 1) := by decide +kernel
theorem dL_law_1318 : decode cL_law 1318 = .ok (.iload_n 3, 1) := by decide +kernel
theorem dL_law_1319 : decode cL_law 1319 = .ok (.iconst 1, 1) := by decide +kernel
theorem dL_law_1320 : decode cL_law 1320 = .ok (.iadd, 1) := by decide +kernel
theorem dL_law_1321 : decode cL_law 1321 = .ok (.iaload, 1) := by decide +kernel
theorem dL_law_1322 : decode cL_law 1322 = .ok (.aload_n 0, 1) := by decide +kernel
theorem dL_law_1323 : decode cL_law 1323 = .ok (.iload_n 3, 1) := by decide +kernel
theorem dL_law_1324 : decode cL_law 1324 = .ok (.iconst 2, 1) := by decide +kernel
theorem dL_law_1325 : decode cL_law 1325 = .ok (.iadd, 1) := by decide +kernel
theorem dL_law_1326 : decode cL_law 1326 = .ok (.iaload, 1) := by decide +kernel
theorem dL_law_1327 : decode cL_law 1327 = .ok (.invokevirtual 156, 3) := by decide +kernel
theorem dL_law_1330 : decode cL_law 1330 = .ok (.aload_n 2, 1) := by decide +kernel
theorem dL_law_1331 : decode cL_law 1331 = .ok (.aload_n 0, 1) := by decide +kernel
theorem dL_law_1332 : decode cL_law 1332 = .ok (.iload_n 3, 1) := by decide +kernel
theorem dL_law_1333 : decode cL_law 1333 = .ok (.iconst 1, 1) := by decide +kernel
theorem dL_law_1334 : decode cL_law 1334 = .ok (.iadd, 1) := by decide +kernel
theorem dL_law_1335 : decode cL_law 1335 = .ok (.iaload, 1) := by decide +kernel
theorem dL_law_1336 : decode cL_law 1336 = .ok (.aload_n 0, 1) := by decide +kernel
theorem dL_law_1337 : decode cL_law 1337 = .ok (.iload_n 3, 1) := by decide +kernel
theorem dL_law_1338 : decode cL_law 1338 = .ok (.iconst 2, 1) := by decide +kernel
theorem dL_law_1339 : decode cL_law 1339 = .ok (.iadd, 1) := by decide +kernel
theorem dL_law_1340 : decode cL_law 1340 = .ok (.iaload, 1) := by decide +kernel
theorem dL_law_1341 : decode cL_law 1341 = .ok (.invokevirtual 159, 3) := by decide +kernel
theorem dL_law_1344 : decode cL_law 1344 = .ok (.if_icmp .eq 248, 3) := by decide +kernel
theorem dL_law_1347 : decode cL_law 1347 = .ok (.iconst 0, 1) := by decide +kernel
theorem dL_law_1348 : decode cL_law 1348 = .ok (.ireturn, 1) := by decide +kernel
theorem dL_law_1349 : decode cL_law 1349 = .ok (.aload_n 1, 1) := by decide +kernel
theorem dL_law_1350 : decode cL_law 1350 = .ok (.aload_n 0, 1) := by decide +kernel
theorem dL_law_1351 : decode cL_law 1351 = .ok (.iload_n 3, 1) := by decide +kernel
theorem dL_law_1352 : decode cL_law 1352 = .ok (.iconst 1, 1) := by decide +kernel
theorem dL_law_1353 : decode cL_law 1353 = .ok (.iadd, 1) := by decide +kernel
theorem dL_law_1354 : decode cL_law 1354 = .ok (.iaload, 1) := by decide +kernel
theorem dL_law_1355 : decode cL_law 1355 = .ok (.aload_n 0, 1) := by decide +kernel
theorem dL_law_1356 : decode cL_law 1356 = .ok (.iload_n 3, 1) := by decide +kernel
theorem dL_law_1357 : decode cL_law 1357 = .ok (.iconst 2, 1) := by decide +kernel
theorem dL_law_1358 : decode cL_law 1358 = .ok (.iadd, 1) := by decide +kernel
theorem dL_law_1359 : decode cL_law 1359 = .ok (.iaload, 1) := by decide +kernel
theorem dL_law_1360 : decode cL_law 1360 = .ok (.invokevirtual 160, 3) := by decide +kernel
theorem dL_law_1363 : decode cL_law 1363 = .ok (.aload_n 2, 1) := by decide +kernel
theorem dL_law_1364 : decode cL_law 1364 = .ok (.aload_n 0, 1) := by decide +kernel
theorem dL_law_1365 : decode cL_law 1365 = .ok (.iload_n 3, 1) := by decide +kernel
theorem dL_law_1366 : decode cL_law 1366 = .ok (.iconst 1, 1) := by decide +kernel
theorem dL_law_1367 : decode cL_law 1367 = .ok (.iadd, 1) := by decide +kernel
theorem dL_law_1368 : decode cL_law 1368 = .ok (.iaload, 1) := by decide +kernel
theorem dL_law_1369 : decode cL_law 1369 = .ok (.aload_n 0, 1) := by decide +kernel
theorem dL_law_1370 : decode cL_law 1370 = .ok (.iload_n 3, 1) := by decide +kernel
theorem dL_law_1371 : decode cL_law 1371 = .ok (.iconst 2, 1) := by decide +kernel
theorem dL_law_1372 : decode cL_law 1372 = .ok (.iadd, 1) := by decide +kernel
theorem dL_law_1373 : decode cL_law 1373 = .ok (.iaload, 1) := by decide +kernel
theorem dL_law_1374 : decode cL_law 1374 = .ok (.invokevirtual 163, 3) := by decide +kernel
theorem dL_law_1377 : decode cL_law 1377 = .ok (.if_icmp .eq 215, 3) := by decide +kernel
theorem dL_law_1380 : decode cL_law 1380 = .ok (.iconst 0, 1) := by decide +kernel
theorem dL_law_1381 : decode cL_law 1381 = .ok (.ireturn, 1) := by decide +kernel
theorem dL_law_1382 : decode cL_law 1382 = .ok (.aload_n 1, 1) := by decide +kernel
theorem dL_law_1383 : decode cL_law 1383 = .ok (.aload_n 0, 1) := by decide +kernel
theorem dL_law_1384 : decode cL_law 1384 = .ok (.iload_n 3, 1) := by decide +kernel
theorem dL_law_1385 : decode cL_law 1385 = .ok (.iconst 1, 1) := by decide +kernel
theorem dL_law_1386 : decode cL_law 1386 = .ok (.iadd, 1) := by decide +kernel
theorem dL_law_1387 : decode cL_law 1387 = .ok (.iaload, 1) := by decide +kernel
theorem dL_law_1388 : decode cL_law 1388 = .ok (.invokevirtual 164, 3) := by decide +kernel
theorem dL_law_1391 : decode cL_law 1391 = .ok (.aload_n 2, 1) := by decide +kernel
theorem dL_law_1392 : decode cL_law 1392 = .ok (.aload_n 0, 1) := by decide +kernel
theorem dL_law_1393 : decode cL_law 1393 = .ok (.iload_n 3, 1) := by decide +kernel
theorem dL_law_1394 : decode cL_law 1394 = .ok (.iconst 1, 1) := by decide +kernel
theorem dL_law_1395 : decode cL_law 1395 = .ok (.iadd, 1) := by decide +kernel
theorem dL_law_1396 : decode cL_law 1396 = .ok (.iaload, 1) := by decide +kernel
theorem dL_law_1397 : decode cL_law 1397 = .ok (.invokevirtual 167, 3) := by decide +kernel
theorem dL_law_1400 : decode cL_law 1400 = .ok (.if_icmp .eq 192, 3) := by decide +kernel
theorem dL_law_1403 : decode cL_law 1403 = .ok (.iconst 0, 1) := by decide +kernel
theorem dL_law_1404 : decode cL_law 1404 = .ok (.ireturn, 1) := by decide +kernel
theorem dL_law_1405 : decode cL_law 1405 = .ok (.aload_n 1, 1) := by decide +kernel
theorem dL_law_1406 : decode cL_law 1406 = .ok (.invokevirtual 168, 3) := by decide +kernel
theorem dL_law_1409 : decode cL_law 1409 = .ok (.aload_n 2, 1) := by decide +kernel
theorem dL_law_1410 : decode cL_law 1410 = .ok (.invokevirtual 171, 3) := by decide +kernel
theorem dL_law_1413 : decode cL_law 1413 = .ok (.if_icmp .eq 179, 3) := by decide +kernel
theorem dL_law_1416 : decode cL_law 1416 = .ok (.iconst 0, 1) := by decide +kernel
theorem dL_law_1417 : decode cL_law 1417 = .ok (.ireturn, 1) := by decide +kernel
theorem dL_law_1418 : decode cL_law 1418 = .ok (.aload_n 1, 1) := by decide +kernel
theorem dL_law_1419 : decode cL_law 1419 = .ok (.aload_n 0, 1) := by decide +kernel
theorem dL_law_1420 : decode cL_law 1420 = .ok (.iload_n 3, 1) := by decide +kernel
theorem dL_law_1421 : decode cL_law 1421 = .ok (.iconst 1, 1) := by decide +kernel
theorem dL_law_1422 : decode cL_law 1422 = .ok (.iadd, 1) := by decide +kernel
theorem dL_law_1423 : decode cL_law 1423 = .ok (.iaload, 1) := by decide +kernel
theorem dL_law_1424 : decode cL_law 1424 = .ok (.invokevirtual 172, 3) := by decide +kernel
theorem dL_law_1427 : decode cL_law 1427 = .ok (.aload_n 2, 1) := by decide +kernel
theorem dL_law_1428 : decode cL_law 1428 = .ok (.aload_n 0, 1) := by decide +kernel
theorem dL_law_1429 : decode cL_law 1429 = .ok (.iload_n 3, 1) := by decide +kernel
theorem dL_law_1430 : decode cL_law 1430 = .ok (.iconst 1, 1) := by decide +kernel
theorem dL_law_1431 : decode cL_law 1431 = .ok (.iadd, 1) := by decide +kernel
theorem dL_law_1432 : decode cL_law 1432 = .ok (.iaload, 1) := by decide +kernel
theorem dL_law_1433 : decode cL_law 1433 = .ok (.invokevirtual 175, 3) := by decide +kernel
theorem dL_law_1436 : decode cL_law 1436 = .ok (.if_icmp .eq 156, 3) := by decide +kernel
theorem dL_law_1439 : decode cL_law 1439 = .ok (.iconst 0, 1) := by decide +kernel
theorem dL_law_1440 : decode cL_law 1440 = .ok (.ireturn, 1) := by decide +kernel
theorem dL_law_1441 : decode cL_law 1441 = .ok (.aload_n 1, 1) := by decide +kernel
theorem dL_law_1442 : decode cL_law 1442 = .ok (.aload_n 0, 1) := by decide +kernel
theorem dL_law_1443 : decode cL_law 1443 = .ok (.iload_n 3, 1) := by decide +kernel
theorem dL_law_1444 : decode cL_law 1444 = .ok (.iconst 1, 1) := by decide +kernel
theorem dL_law_1445 : decode cL_law 1445 = .ok (.iadd, 1) := by decide +kernel
theorem dL_law_1446 : decode cL_law 1446 = .ok (.iaload, 1) := by decide +kernel
theorem dL_law_1447 : decode cL_law 1447 = .ok (.invokevirtual 176, 3) := by decide +kernel
theorem dL_law_1450 : decode cL_law 1450 = .ok (.aload_n 2, 1) := by decide +kernel
theorem dL_law_1451 : decode cL_law 1451 = .ok (.aload_n 0, 1) := by decide +kernel
theorem dL_law_1452 : decode cL_law 1452 = .ok (.iload_n 3, 1) := by decide +kernel
theorem dL_law_1453 : decode cL_law 1453 = .ok (.iconst 1, 1) := by decide +kernel
theorem dL_law_1454 : decode cL_law 1454 = .ok (.iadd, 1) := by decide +kernel
theorem dL_law_1455 : decode cL_law 1455 = .ok (.iaload, 1) := by decide +kernel
theorem dL_law_1456 : decode cL_law 1456 = .ok (.invokevirtual 179, 3) := by decide +kernel
theorem dL_law_1459 : decode cL_law 1459 = .ok (.if_icmp .eq 133, 3) := by decide +kernel
theorem dL_law_1462 : decode cL_law 1462 = .ok (.iconst 0, 1) := by decide +kernel
theorem dL_law_1463 : decode cL_law 1463 = .ok (.ireturn, 1) := by decide +kernel
theorem dL_law_1464 : decode cL_law 1464 = .ok (.aload_n 1, 1) := by decide +kernel
theorem dL_law_1465 : decode cL_law 1465 = .ok (.aload_n 0, 1) := by decide +kernel
theorem dL_law_1466 : decode cL_law 1466 = .ok (.iload_n 3, 1) := by decide +kernel
theorem dL_law_1467 : decode cL_law 1467 = .ok (.iconst 1, 1) := by decide +kernel
theorem dL_law_1468 : decode cL_law 1468 = .ok (.iadd, 1) := by decide +kernel
theorem dL_law_1469 : decode cL_law 1469 = .ok (.iaload, 1) := by decide +kernel
theorem dL_law_1470 : decode cL_law 1470 = .ok (.invokevirtual 180, 3) := by decide +kernel
theorem dL_law_1473 : decode cL_law 1473 = .ok (.aload_n 2, 1) := by decide +kernel
theorem dL_law_1474 : decode cL_law 1474 = .ok (.aload_n 0, 1) := by decide +kernel
theorem dL_law_1475 : decode cL_law 1475 = .ok (.iload_n 3, 1) := by decide +kernel
theorem dL_law_1476 : decode cL_law 1476 = .ok (.iconst 1, 1) := by decide +kernel
theorem dL_law_1477 : decode cL_law 1477 = .ok (.iadd, 1) := by decide +kernel
theorem dL_law_1478 : decode cL_law 1478 = .ok (.iaload, 1) := by decide +kernel
theorem dL_law_1479 : decode cL_law 1479 = .ok (.invokevirtual 183, 3) := by decide +kernel
theorem dL_law_1482 : decode cL_law 1482 = .ok (.if_icmp .eq 110, 3) := by decide +kernel
theorem dL_law_1485 : decode cL_law 1485 = .ok (.iconst 0, 1) := by decide +kernel
theorem dL_law_1486 : decode cL_law 1486 = .ok (.ireturn, 1) := by decide +kernel
theorem dL_law_1487 : decode cL_law 1487 = .ok (.aload_n 1, 1) := by decide +kernel
theorem dL_law_1488 : decode cL_law 1488 = .ok (.invokevirtual 184, 3) := by decide +kernel
theorem dL_law_1491 : decode cL_law 1491 = .ok (.aload_n 2, 1) := by decide +kernel
theorem dL_law_1492 : decode cL_law 1492 = .ok (.invokevirtual 187, 3) := by decide +kernel
theorem dL_law_1495 : decode cL_law 1495 = .ok (.if_icmp .eq 97, 3) := by decide +kernel
theorem dL_law_1498 : decode cL_law 1498 = .ok (.iconst 0, 1) := by decide +kernel
theorem dL_law_1499 : decode cL_law 1499 = .ok (.ireturn, 1) := by decide +kernel
theorem dL_law_1500 : decode cL_law 1500 = .ok (.aload_n 1, 1) := by decide +kernel
theorem dL_law_1501 : decode cL_law 1501 = .ok (.aload_n 0, 1) := by decide +kernel
theorem dL_law_1502 : decode cL_law 1502 = .ok (.iload_n 3, 1) := by decide +kernel
theorem dL_law_1503 : decode cL_law 1503 = .ok (.iconst 1, 1) := by decide +kernel
theorem dL_law_1504 : decode cL_law 1504 = .ok (.iadd, 1) := by decide +kernel
theorem dL_law_1505 : decode cL_law 1505 = .ok (.iaload, 1) := by decide +kernel
theorem dL_law_1506 : decode cL_law 1506 = .ok (.aload_n 0, 1) := by decide +kernel
theorem dL_law_1507 : decode cL_law 1507 = .ok (.iload_n 3, 1) := by decide +kernel
theorem dL_law_1508 : decode cL_law 1508 = .ok (.iconst 2, 1) := by decide +kernel
theorem dL_law_1509 : decode cL_law 1509 = .ok (.iadd, 1) := by decide +kernel
theorem dL_law_1510 : decode cL_law 1510 = .ok (.iaload, 1) := by decide +kernel
theorem dL_law_1511 : decode cL_law 1511 = .ok (.aload_n 0, 1) := by decide +kernel
theorem dL_law_1512 : decode cL_law 1512 = .ok (.iload_n 3, 1) := by decide +kernel
theorem dL_law_1513 : decode cL_law 1513 = .ok (.iconst 3, 1) := by decide +kernel
theorem dL_law_1514 : decode cL_law 1514 = .ok (.iadd, 1) := by decide +kernel
theorem dL_law_1515 : decode cL_law 1515 = .ok (.iaload, 1) := by decide +kernel
theorem dL_law_1516 : decode cL_law 1516 = .ok (.invokevirtual 188, 3) := by decide +kernel
theorem dL_law_1519 : decode cL_law 1519 = .ok (.aload_n 2, 1) := by decide +kernel
theorem dL_law_1520 : decode cL_law 1520 = .ok (.aload_n 0, 1) := by decide +kernel
theorem dL_law_1521 : decode cL_law 1521 = .ok (.iload_n 3, 1) := by decide +kernel
theorem dL_law_1522 : decode cL_law 1522 = .ok (.iconst 1, 1) := by decide +kernel
theorem dL_law_1523 : decode cL_law 1523 = .ok (.iadd, 1) := by decide +kernel
theorem dL_law_1524 : decode cL_law 1524 = .ok (.iaload, 1) := by decide +kernel
theorem dL_law_1525 : decode cL_law 1525 = .ok (.aload_n 0, 1) := by decide +kernel
theorem dL_law_1526 : decode cL_law 1526 = .ok (.iload_n 3, 1) := by decide +kernel
theorem dL_law_1527 : decode cL_law 1527 = .ok (.iconst 2, 1) := by decide +kernel
theorem dL_law_1528 : decode cL_law 1528 = .ok (.iadd, 1) := by decide +kernel
theorem dL_law_1529 : decode cL_law 1529 = .ok (.iaload, 1) := by decide +kernel
theorem dL_law_1530 : decode cL_law 1530 = .ok (.aload_n 0, 1) := by decide +kernel
theorem dL_law_1531 : decode cL_law 1531 = .ok (.iload_n 3, 1) := by decide +kernel
theorem dL_law_1532 : decode cL_law 1532 = .ok (.iconst 3, 1) := by decide +kernel
theorem dL_law_1533 : decode cL_law 1533 = .ok (.iadd, 1) := by decide +kernel
theorem dL_law_1534 : decode cL_law 1534 = .ok (.iaload, 1) := by decide +kernel
theorem dL_law_1535 : decode cL_law 1535 = .ok (.invokevirtual 191, 3) := by decide +kernel
theorem dL_law_1538 : decode cL_law 1538 = .ok (.if_icmp .eq 54, 3) := by decide +kernel
theorem dL_law_1541 : decode cL_law 1541 = .ok (.iconst 0, 1) := by decide +kernel
theorem dL_law_1542 : decode cL_law 1542 = .ok (.ireturn, 1) := by decide +kernel
theorem dL_law_1543 : decode cL_law 1543 = .ok (.aload_n 1, 1) := by decide +kernel
theorem dL_law_1544 : decode cL_law 1544 = .ok (.invokevirtual 192, 3) := by decide +kernel
theorem dL_law_1547 : decode cL_law 1547 = .ok (.aload_n 2, 1) := by decide +kernel
theorem dL_law_1548 : decode cL_law 1548 = .ok (.invokevirtual 195, 3) := by decide +kernel
theorem dL_law_1551 : decode cL_law 1551 = .ok (.if_icmp .eq 41, 3) := by decide +kernel
theorem dL_law_1554 : decode cL_law 1554 = .ok (.iconst 0, 1) := by decide +kernel
theorem dL_law_1555 : decode cL_law 1555 = .ok (.ireturn, 1) := by decide +kernel
theorem dL_law_1556 : decode cL_law 1556 = .ok (.aload_n 1, 1) := by decide +kernel
theorem dL_law_1557 : decode cL_law 1557 = .ok (.invokevirtual 196, 3) := by decide +kernel
theorem dL_law_1560 : decode cL_law 1560 = .ok (.aload_n 2, 1) := by decide +kernel
theorem dL_law_1561 : decode cL_law 1561 = .ok (.invokevirtual 199, 3) := by decide +kernel
theorem dL_law_1564 : decode cL_law 1564 = .ok (.if_icmp .eq 28, 3) := by decide +kernel
theorem dL_law_1567 : decode cL_law 1567 = .ok (.iconst 0, 1) := by decide +kernel
theorem dL_law_1568 : decode cL_law 1568 = .ok (.ireturn, 1) := by decide +kernel
theorem dL_law_1569 : decode cL_law 1569 = .ok (.aload_n 1, 1) := by decide +kernel
theorem dL_law_1570 : decode cL_law 1570 = .ok (.aload_n 0, 1) := by decide +kernel
theorem dL_law_1571 : decode cL_law 1571 = .ok (.iload_n 3, 1) := by decide +kernel
theorem dL_law_1572 : decode cL_law 1572 = .ok (.iconst 1, 1) := by decide +kernel
theorem dL_law_1573 : decode cL_law 1573 = .ok (.iadd, 1) := by decide +kernel
theorem dL_law_1574 : decode cL_law 1574 = .ok (.iaload, 1) := by decide +kernel
theorem dL_law_1575 : decode cL_law 1575 = .ok (.invokevirtual 200, 3) := by decide +kernel
theorem dL_law_1578 : decode cL_law 1578 = .ok (.aload_n 2, 1) := by decide +kernel
theorem dL_law_1579 : decode cL_law 1579 = .ok (.aload_n 0, 1) := by decide +kernel
theorem dL_law_1580 : decode cL_law 1580 = .ok (.iload_n 3, 1) := by decide +kernel
theorem dL_law_1581 : decode cL_law 1581 = .ok (.iconst 1, 1) := by decide +kernel
theorem dL_law_1582 : decode cL_law 1582 = .ok (.iadd, 1) := by decide +kernel
theorem dL_law_1583 : decode cL_law 1583 = .ok (.iaload, 1) := by decide +kernel
theorem dL_law_1584 : decode cL_law 1584 = .ok (.invokevirtual 203, 3) := by decide +kernel
theorem dL_law_1587 : decode cL_law 1587 = .ok (.if_icmp .eq 5, 3) := by decide +kernel
theorem dL_law_1590 : decode cL_law 1590 = .ok (.iconst 0, 1) := by decide +kernel
theorem dL_law_1591 : decode cL_law 1591 = .ok (.ireturn, 1) := by decide +kernel
theorem dL_law_1592 : decode cL_law 1592 = .ok (.iinc 3 5, 3) := by decide +kernel
theorem dL_law_1595 : decode cL_law 1595 = .ok (.goto (-1577), 3) := by decide +kernel
theorem dL_law_1598 : decode cL_law 1598 = .ok (.iconst 1, 1) := by decide +kernel
theorem dL_law_1599 : decode cL_law 1599 = .ok (.ireturn, 1) := by decide +kernel
