theorem dX7_faults_34 : decode cX7_faults 34 = .ok (.ireturn, 1) := by decide +kernel
theorem dX7_faults_35 : decode cX7_faults 35 = .ok (.iload 4, 2) := by decide +kernel
theorem dX7_faults_37 : decode cX7_faults 37 = .ok (.tableswitch 68 0 2 #[27, 38, 57], 27) := by decide +kernel
theorem dX7_faults_64 : decode cX7_faults 64 = .ok (.aload_n 0, 1) := by decide +kernel
theorem dX7_faults_65 : decode cX7_faults 65 = .ok (.getfield 10, 3) := by decide +kernel
theorem dX7_faults_68 : decode cX7_faults 68 = .ok (.iload_n 1, 1) := by decide +kernel
theorem dX7_faults_69 : decode cX7_faults 69 = .ok (.iload_n 2, 1) := by decide +kernel
theorem dX7_faults_70 : decode cX7_faults 70 = .ok (.iload_n 3, 1) := by decide +kernel
theorem dX7_faults_71 : decode cX7_faults 71 = .ok (.invokevirtual 182, 3) := by decide +kernel
theorem dX7_faults_74 : decode cX7_faults 74 = .ok (.ireturn, 1) := by decide +kernel
theorem dX7_faults_75 : decode cX7_faults 75 = .ok (.aload_n 0, 1) := by decide +kernel
theorem dX7_faults_76 : decode cX7_faults 76 = .ok (.getfield 10, 3) := by decide +kernel
theorem dX7_faults_79 : decode cX7_faults 79 = .ok (.iload_n 1, 1) := by decide +kernel
theorem dX7_faults_80 : decode cX7_faults 80 = .ok (.iload_n 2, 1) := by decide +kernel
theorem dX7_faults_81 : decode cX7_faults 81 = .ok (.iload_n 3, 1) := by decide +kernel
theorem dX7_faults_82 : decode cX7_faults 82 = .ok (.invokevirtual 185, 3) := by decide +kernel
theorem dX7_faults_85 : decode cX7_faults 85 = .ok (.ifCond .eq 7, 3) := by decide +kernel
theorem dX7_faults_88 : decode cX7_faults 88 = .ok (.iconst 1, 1) := by decide +kernel
theorem dX7_faults_89 : decode cX7_faults 89 = .ok (.goto 4, 3) := by decide +kernel
theorem dX7_faults_92 : decode cX7_faults 92 = .ok (.iconst 0, 1) := by decide +kernel
theorem dX7_faults_93 : decode cX7_faults 93 = .ok (.ireturn, 1) := by decide +kernel
theorem dX7_faults_94 : decode cX7_faults 94 = .ok (.aload_n 0, 1) := by decide +kernel
theorem dX7_faults_95 : decode cX7_faults 95 = .ok (.getfield 55, 3) := by decide +kernel
theorem dX7_faults_98 : decode cX7_faults 98 = .ok (.iload_n 1, 1) := by decide +kernel
theorem dX7_faults_99 : decode cX7_faults 99 = .ok (.iload_n 2, 1) := by decide +kernel
theorem dX7_faults_100 : decode cX7_faults 100 = .ok (.iload_n 3, 1) := by decide +kernel
theorem dX7_faults_101 : decode cX7_faults 101 = .ok (.invokevirtual 189, 3) := by decide +kernel
theorem dX7_faults_104 : decode cX7_faults 104 = .ok (.ireturn, 1) := by decide +kernel
theorem dX7_faults_105 : decode cX7_faults 105 = .ok (.aload_n 0, 1) := by decide +kernel
theorem dX7_faults_106 : decode cX7_faults 106 = .ok (.bipush (-2), 2) := by decide +kernel
theorem dX7_faults_108 : decode cX7_faults 108 = .ok (.invokevirtual 74, 3) := by decide +kernel
theorem dX7_faults_111 : decode cX7_faults 111 = .ok (.ireturn, 1) := by decide +kernel
theorem dX7_bestHour_0 : decode cX7_bestHour 0 = .ok (.aload_n 0, 1) := by decide +kernel
theorem dX7_bestHour_1 : decode cX7_bestHour 1 = .ok (.getfield 10, 3) := by decide +kernel
theorem dX7_bestHour_4 : decode cX7_bestHour 4 = .ok (.iload_n 1, 1) := by decide +kernel
theorem dX7_bestHour_5 : decode cX7_bestHour 5 = .ok (.invokevirtual 120, 3) := by decide +kernel
theorem dX7_bestHour_8 : decode cX7_bestHour 8 = .ok (.ifCond .eq 14, 3) := by decide +kernel
theorem dX7_bestHour_11 : decode cX7_bestHour 11 = .ok (.aload_n 0, 1) := by decide +kernel
theorem dX7_bestHour_12 : decode cX7_bestHour 12 = .ok (.getfield 10, 3) := by decide +kernel
theorem dX7_bestHour_15 : decode cX7_bestHour 15 = .ok (.iload_n 2, 1) := by decide +kernel
theorem dX7_bestHour_16 : decode cX7_bestHour 16 = .ok (.invokevirtual 164, 3) := by decide +kernel
theorem dX7_bestHour_19 : decode cX7_bestHour 19 = .ok (.ifCond .ne 9, 3) := by decide +kernel
theorem dX7_bestHour_22 : decode cX7_bestHour 22 = .ok (.aload_n 0, 1) := by decide +kernel
theorem dX7_bestHour_23 : decode cX7_bestHour 23 = .ok (.iconst (-1), 1) := by decide +kernel
theorem dX7_bestHour_24 : decode cX7_bestHour 24 = .ok (.invokevirtual 74, 3) := by decide +kernel
theorem dX7_bestHour_27 : decode cX7_bestHour 27 = .ok (.ireturn, 1) := by decide +kernel
theorem dX7_bestHour_28 : decode cX7_bestHour 28 = .ok (.iload_n 3, 1) := by decide +kernel
theorem dX7_bestHour_29 : decode cX7_bestHour 29 = .ok (.lookupswitch 47 #[(0, 27), (1, 37)], 27) := by decide +kernel
theorem dX7_bestHour_56 : decode cX7_bestHour 56 = .ok (.aload_n 0, 1) := by decide +kernel
theorem dX7_bestHour_57 : decode cX7_bestHour 57 = .ok (.getfield 55, 3) := by decide +kernel
theorem dX7_bestHour_60 : decode cX7_bestHour 60 = .ok (.iload_n 1, 1) := by decide +kernel
theorem dX7_bestHour_61 : decode cX7_bestHour 61 = .ok (.iload_n 2, 1) := by decide +kernel
theorem dX7_bestHour_62 : decode cX7_bestHour 62 = .ok (.invokevirtual 192, 3) := by decide +kernel
theorem dX7_bestHour_65 : decode cX7_bestHour 65 = .ok (.ireturn, 1) := by decide +kernel
theorem dX7_bestHour_66 : decode cX7_bestHour 66 = .ok (.aload_n 0, 1) := by decide +kernel
theorem dX7_bestHour_67 : decode cX7_bestHour 67 = .ok (.getfield 55, 3) := by decide +kernel
theorem dX7_bestHour_70 : decode cX7_bestHour 70 = .ok (.iload_n 1, 1) := by decide +kernel
theorem dX7_bestHour_71 : decode cX7_bestHour 71 = .ok (.iload_n 2, 1) := by decide +kernel
theorem dX7_bestHour_72 : decode cX7_bestHour 72 = .ok (.invokevirtual 195, 3) := by decide +kernel
theorem dX7_bestHour_75 : decode cX7_bestHour 75 = .ok (.ireturn, 1) := by decide +kernel
theorem dX7_bestHour_76 : decode cX7_bestHour 76 = .ok (.aload_n 0, 1) := by decide +kernel
theorem dX7_bestHour_77 : decode cX7_bestHour 77 = .ok (.bipush (-2), 2) := by decide +kernel
theorem dX7_bestHour_79 : decode cX7_bestHour 79 = .ok (.invokevirtual 74, 3) := by decide +kernel
theorem dX7_bestHour_82 : decode cX7_bestHour 82 = .ok (.ireturn, 1) := by decide +kernel
theorem dX7_easiest_0 : decode cX7_easiest 0 = .ok (.aload_n 0, 1) := by decide +kernel
theorem dX7_easiest_1 : decode cX7_easiest 1 = .ok (.getfield 10, 3) := by decide +kernel
theorem dX7_easiest_4 : decode cX7_easiest 4 = .ok (.iload_n 1, 1) := by decide +kernel
theorem dX7_easiest_5 : decode cX7_easiest 5 = .ok (.invokevirtual 120, 3) := by decide +kernel
theorem dX7_easiest_8 : decode cX7_easiest 8 = .ok (.ifCond .eq 10, 3) := by decide +kernel
theorem dX7_easiest_11 : decode cX7_easiest 11 = .ok (.iload_n 2, 1) := by decide +kernel
theorem dX7_easiest_12 : decode cX7_easiest 12 = .ok (.invokestatic 167, 3) := by decide +kernel
theorem dX7_easiest_15 : decode cX7_easiest 15 = .ok (.ifCond .ne 9, 3) := by decide +kernel
theorem dX7_easiest_18 : decode cX7_easiest 18 = .ok (.aload_n 0, 1) := by decide +kernel
theorem dX7_easiest_19 : decode cX7_easiest 19 = .ok (.iconst (-1), 1) := by decide +kernel
theorem dX7_easiest_20 : decode cX7_easiest 20 = .ok (.invokevirtual 74, 3) := by decide +kernel
theorem dX7_easiest_23 : decode cX7_easiest 23 = .ok (.ireturn, 1) := by decide +kernel
theorem dX7_easiest_24 : decode cX7_easiest 24 = .ok (.iload_n 3, 1) := by decide +kernel
theorem dX7_easiest_25 : decode cX7_easiest 25 = .ok (.lookupswitch 68 #[(0, 27), (1, 37)], 27) := by decide +kernel
theorem dX7_easiest_52 : decode cX7_easiest 52 = .ok (.aload_n 0, 1) := by decide +kernel
theorem dX7_easiest_53 : decode cX7_easiest 53 = .ok (.getfield 55, 3) := by decide +kernel
theorem dX7_easiest_56 : decode cX7_easiest 56 = .ok (.iload_n 1, 1) := by decide +kernel
theorem dX7_easiest_57 : decode cX7_easiest 57 = .ok (.iload_n 2, 1) := by decide +kernel
theorem dX7_easiest_58 : decode cX7_easiest 58 = .ok (.invokevirtual 198, 3) := by decide +kernel
theorem dX7_easiest_61 : decode cX7_easiest 61 = .ok (.ireturn, 1) := by decide +kernel
theorem dX7_easiest_62 : decode cX7_easiest 62 = .ok (.aload_n 0, 1) := by decide +kernel
theorem dX7_easiest_63 : decode cX7_easiest 63 = .ok (.getfield 10, 3) := by decide +kernel
theorem dX7_easiest_66 : decode cX7_easiest 66 = .ok (.aload_n 0, 1) := by decide +kernel
theorem dX7_easiest_67 : decode cX7_easiest 67 = .ok (.getfield 10, 3) := by decide +kernel
theorem dX7_easiest_70 : decode cX7_easiest 70 = .ok (.getfield 123, 3) := by decide +kernel
theorem dX7_easiest_73 : decode cX7_easiest 73 = .ok (.iload_n 1, 1) := by decide +kernel
theorem dX7_easiest_74 : decode cX7_easiest 74 = .ok (.invokestatic 100, 3) := by decide +kernel
theorem dX7_easiest_77 : decode cX7_easiest 77 = .ok (.aload_n 0, 1) := by decide +kernel
theorem dX7_easiest_78 : decode cX7_easiest 78 = .ok (.getfield 10, 3) := by decide +kernel
theorem dX7_easiest_81 : decode cX7_easiest 81 = .ok (.getfield 126, 3) := by decide +kernel
theorem dX7_easiest_84 : decode cX7_easiest 84 = .ok (.iload_n 1, 1) := by decide +kernel
theorem dX7_easiest_85 : decode cX7_easiest 85 = .ok (.invokestatic 100, 3) := by decide +kernel
theorem dX7_easiest_88 : decode cX7_easiest 88 = .ok (.iload_n 2, 1) := by decide +kernel
theorem dX7_easiest_89 : decode cX7_easiest 89 = .ok (.invokevirtual 201, 3) := by decide +kernel
theorem dX7_easiest_92 : decode cX7_easiest 92 = .ok (.ireturn, 1) := by decide +kernel
theorem dX7_easiest_93 : decode cX7_easiest 93 = .ok (.aload_n 0, 1) := by decide +kernel
theorem dX7_easiest_94 : decode cX7_easiest 94 = .ok (.bipush (-2), 2) := by decide +kernel
theorem dX7_easiest_96 : decode cX7_easiest 96 = .ok (.invokevirtual 74, 3) := by decide +kernel
theorem dX7_easiest_99 : decode cX7_easiest 99 = .ok (.ireturn, 1) := by decide +kernel
theorem dX7_learn_0 : decode cX7_learn 0 = .ok (.iload_n 2, 1) := by decide +kernel
theorem dX7_learn_1 : decode cX7_learn 1 = .ok (.iconst (-1), 1) := by decide +kernel
theorem dX7_learn_2 : decode cX7_learn 2 = .ok (.if_icmp .ne 7, 3) := by decide +kernel
theorem dX7_learn_5 : decode cX7_learn 5 = .ok (.iconst 1, 1) := by decide +kernel
theorem dX7_learn_6 : decode cX7_learn 6 = .ok (.goto 4, 3) := by decide +kernel
theorem dX7_learn_9 : decode cX7_learn 9 = .ok (.iconst 0, 1) := by decide +kernel
theorem dX7_learn_10 : decode cX7_learn 10 = .ok (.istore 4, 2) := by decide +kernel
theorem dX7_learn_12 : decode cX7_learn 12 = .ok (.aload_n 0, 1) := by decide +kernel
theorem dX7_learn_13 : decode cX7_learn 13 = .ok (.getfield 10, 3) := by decide +kernel
theorem dX7_learn_16 : decode cX7_learn 16 = .ok (.iload_n 1, 1) := by decide +kernel
theorem dX7_learn_17 : decode cX7_learn 17 = .ok (.invokevirtual 120, 3) := by decide +kernel
theorem dX7_learn_20 : decode cX7_learn 20 = .ok (.ifCond .eq 26, 3) := by decide +kernel
theorem dX7_learn_23 : decode cX7_learn 23 = .ok (.iload 4, 2) := by decide +kernel
theorem dX7_learn_25 : decode cX7_learn 25 = .ok (.ifCond .ne 14, 3) := by decide +kernel
theorem dX7_learn_28 : decode cX7_learn 28 = .ok (.aload_n 0, 1) := by decide +kernel
theorem dX7_learn_29 : decode cX7_learn 29 = .ok (.getfield 10, 3) := by decide +kernel
theorem dX7_learn_32 : decode cX7_learn 32 = .ok (.iload_n 2, 1) := by decide +kernel
theorem dX7_learn_33 : decode cX7_learn 33 = .ok (.invokevirtual 164, 3) := by decide +kernel
theorem dX7_learn_36 : decode cX7_learn 36 = .ok (.ifCond .eq 10, 3) := by decide +kernel
theorem dX7_learn_39 : decode cX7_learn 39 = .ok (.iload_n 3, 1) := by decide +kernel
theorem dX7_learn_40 : decode cX7_learn 40 = .ok (.invokestatic 167, 3) := by decide +kernel
theorem dX7_learn_43 : decode cX7_learn 43 = .ok (.ifCond .ne 9, 3) := by decide +kernel
theorem dX7_learn_46 : decode cX7_learn 46 = .ok (.aload_n 0, 1) := by decide +kernel
theorem dX7_learn_47 : decode cX7_learn 47 = .ok (.iconst (-1), 1) := by decide +kernel
theorem dX7_learn_48 : decode cX7_learn 48 = .ok (.invokevirtual 74, 3) := by decide +kernel
theorem dX7_learn_51 : decode cX7_learn 51 = .ok (.ireturn, 1) := by decide +kernel
theorem dX7_learn_52 : decode cX7_learn 52 = .ok (.aload_n 0, 1) := by decide +kernel
theorem dX7_learn_53 : decode cX7_learn 53 = .ok (.getfield 55, 3) := by decide +kernel
theorem dX7_learn_56 : decode cX7_learn 56 = .ok (.iload_n 1, 1) := by decide +kernel
theorem dX7_learn_57 : decode cX7_learn 57 = .ok (.iload 4, 2) := by decide +kernel
theorem dX7_learn_59 : decode cX7_learn 59 = .ok (.ifCond .eq 13, 3) := by decide +kernel
theorem dX7_learn_62 : decode cX7_learn 62 = .ok (.aload_n 0, 1) := by decide +kernel
theorem dX7_learn_63 : decode cX7_learn 63 = .ok (.getfield 10, 3) := by decide +kernel
theorem dX7_learn_66 : decode cX7_learn 66 = .ok (.invokevirtual 204, 3) := by decide +kernel
theorem dX7_learn_69 : decode cX7_learn 69 = .ok (.goto 6, 3) := by decide +kernel
theorem dX7_learn_72 : decode cX7_learn 72 = .ok (.iconst 1, 1) := by decide +kernel
theorem dX7_learn_73 : decode cX7_learn 73 = .ok (.iload_n 2, 1) := by decide +kernel
theorem dX7_learn_74 : decode cX7_learn 74 = .ok (.ishl, 1) := by decide +kernel
theorem dX7_learn_75 : decode cX7_learn 75 = .ok (.iload_n 3, 1) := by decide +kernel
theorem dX7_learn_76 : decode cX7_learn 76 = .ok (.invokevirtual 207, 3) := by decide +kernel
theorem dX7_learn_79 : decode cX7_learn 79 = .ok (.ireturn, 1) := by decide +kernel
theorem dX7_drawnWay_0 : decode cX7_drawnWay 0 = .ok (.aload_n 0, 1) := by decide +kernel
theorem dX7_drawnWay_1 : decode cX7_drawnWay 1 = .ok (.getfield 10, 3) := by decide +kernel
theorem dX7_drawnWay_4 : decode cX7_drawnWay 4 = .ok (.iload_n 1, 1) := by decide +kernel
theorem dX7_drawnWay_5 : decode cX7_drawnWay 5 = .ok (.invokevirtual 120, 3) := by decide +kernel
theorem dX7_drawnWay_8 : decode cX7_drawnWay 8 = .ok (.ifCond .eq 10, 3) := by decide +kernel
theorem dX7_drawnWay_11 : decode cX7_drawnWay 11 = .ok (.iload_n 2, 1) := by decide +kernel
theorem dX7_drawnWay_12 : decode cX7_drawnWay 12 = .ok (.invokestatic 167, 3) := by decide +kernel
theorem dX7_drawnWay_15 : decode cX7_drawnWay 15 = .ok (.ifCond .ne 9, 3) := by decide +kernel
theorem dX7_drawnWay_18 : decode cX7_drawnWay 18 = .ok (.aload_n 0, 1) := by decide +kernel
theorem dX7_drawnWay_19 : decode cX7_drawnWay 19 = .ok (.iconst (-1), 1) := by decide +kernel
theorem dX7_drawnWay_20 : decode cX7_drawnWay 20 = .ok (.invokevirtual 210, 3) := by decide +kernel
theorem dX7_drawnWay_23 : decode cX7_drawnWay 23 = .ok (.lreturn, 1) := by decide +kernel
theorem dX7_drawnWay_24 : decode cX7_drawnWay 24 = .ok (.iload_n 3, 1) := by decide +kernel
theorem dX7_drawnWay_25 : decode cX7_drawnWay 25 = .ok (.invokestatic 214, 3) := by decide +kernel
theorem dX7_drawnWay_28 : decode cX7_drawnWay 28 = .ok (.ifCond .ne 10, 3) := by decide +kernel
theorem dX7_drawnWay_31 : decode cX7_drawnWay 31 = .ok (.aload_n 0, 1) := by decide +kernel
theorem dX7_drawnWay_32 : decode cX7_drawnWay 32 = .ok (.bipush (-2), 2) := by decide +kernel
theorem dX7_drawnWay_34 : decode cX7_drawnWay 34 = .ok (.invokevirtual 210, 3) := by decide +kernel
theorem dX7_drawnWay_37 : decode cX7_drawnWay 37 = .ok (.lreturn, 1) := by decide +kernel
theorem dX7_drawnWay_38 : decode cX7_drawnWay 38 = .ok (.aload_n 0, 1) := by decide +kernel
theorem dX7_drawnWay_39 : decode cX7_drawnWay 39 = .ok (.getfield 10, 3) := by decide +kernel
theorem dX7_drawnWay_42 : decode cX7_drawnWay 42 = .ok (.aload_n 0, 1) := by decide +kernel
theorem dX7_drawnWay_43 : decode cX7_drawnWay 43 = .ok (.getfield 10, 3) := by decide +kernel
theorem dX7_drawnWay_46 : decode cX7_drawnWay 46 = .ok (.getfield 123, 3) := by decide +kernel
theorem dX7_drawnWay_49 : decode cX7_drawnWay 49 = .ok (.iload_n 1, 1) := by decide +kernel
theorem dX7_drawnWay_50 : decode cX7_drawnWay 50 = .ok (.invokestatic 100, 3) := by decide +kernel
theorem dX7_drawnWay_53 : decode cX7_drawnWay 53 = .ok (.aload_n 0, 1) := by decide +kernel
theorem dX7_drawnWay_54 : decode cX7_drawnWay 54 = .ok (.getfield 10, 3) := by decide +kernel
theorem dX7_drawnWay_57 : decode cX7_drawnWay 57 = .ok (.getfield 126, 3) := by decide +kernel
theorem dX7_drawnWay_60 : decode cX7_drawnWay 60 = .ok (.iload_n 1, 1) := by decide +kernel
theorem dX7_drawnWay_61 : decode cX7_drawnWay 61 = .ok (.invokestatic 100, 3) := by decide +kernel
theorem dX7_drawnWay_64 : decode cX7_drawnWay 64 = .ok (.iload_n 2, 1) := by decide +kernel
theorem dX7_drawnWay_65 : decode cX7_drawnWay 65 = .ok (.invokevirtual 201, 3) := by decide +kernel
theorem dX7_drawnWay_68 : decode cX7_drawnWay 68 = .ok (.istore 4, 2) := by decide +kernel
theorem dX7_drawnWay_70 : decode cX7_drawnWay 70 = .ok (.iload 4, 2) := by decide +kernel
theorem dX7_drawnWay_72 : decode cX7_drawnWay 72 = .ok (.invokestatic 217, 3) := by decide +kernel
theorem dX7_drawnWay_75 : decode cX7_drawnWay 75 = .ok (.i2l, 1) := by decide +kernel
theorem dX7_drawnWay_76 : decode cX7_drawnWay 76 = .ok (.aload_n 0, 1) := by decide +kernel
theorem dX7_drawnWay_77 : decode cX7_drawnWay 77 = .ok (.getfield 10, 3) := by decide +kernel
theorem dX7_drawnWay_80 : decode cX7_drawnWay 80 = .ok (.getfield 222, 3) := by decide +kernel
theorem dX7_drawnWay_83 : decode cX7_drawnWay 83 = .ok (.i2l, 1) := by decide +kernel
theorem dX7_drawnWay_84 : decode cX7_drawnWay 84 = .ok (.iload_n 3, 1) := by decide +kernel
theorem dX7_drawnWay_85 : decode cX7_drawnWay 85 = .ok (.invokestatic 225, 3) := by decide +kernel
theorem dX7_drawnWay_88 : decode cX7_drawnWay 88 = .ok (.lreturn, 1) := by decide +kernel
theorem dX7_alike_0 : decode cX7_alike 0 = .ok (.aload_n 0, 1) := by decide +kernel
theorem dX7_alike_1 : decode cX7_alike 1 = .ok (.getfield 10, 3) := by decide +kernel
theorem dX7_alike_4 : decode cX7_alike 4 = .ok (.iload_n 1, 1) := by decide +kernel
theorem dX7_alike_5 : decode cX7_alike 5 = .ok (.invokevirtual 164, 3) := by decide +kernel
theorem dX7_alike_8 : decode cX7_alike 8 = .ok (.ifCond .eq 19, 3) := by decide +kernel
theorem dX7_alike_11 : decode cX7_alike 11 = .ok (.aload_n 0, 1) := by decide +kernel
theorem dX7_alike_12 : decode cX7_alike 12 = .ok (.getfield 10, 3) := by decide +kernel
theorem dX7_alike_15 : decode cX7_alike 15 = .ok (.iload_n 2, 1) := by decide +kernel
theorem dX7_alike_16 : decode cX7_alike 16 = .ok (.invokevirtual 164, 3) := by decide +kernel
theorem dX7_alike_19 : decode cX7_alike 19 = .ok (.ifCond .eq 8, 3) := by decide +kernel
theorem dX7_alike_22 : decode cX7_alike 22 = .ok (.iload_n 1, 1) := by decide +kernel
theorem dX7_alike_23 : decode cX7_alike 23 = .ok (.iload_n 2, 1) := by decide +kernel
theorem dX7_alike_24 : decode cX7_alike 24 = .ok (.if_icmp .ne 9, 3) := by decide +kernel
theorem dX7_alike_27 : decode cX7_alike 27 = .ok (.aload_n 0, 1) := by decide +kernel
theorem dX7_alike_28 : decode cX7_alike 28 = .ok (.iconst (-1), 1) := by decide +kernel
theorem dX7_alike_29 : decode cX7_alike 29 = .ok (.invokevirtual 74, 3) := by decide +kernel
theorem dX7_alike_32 : decode cX7_alike 32 = .ok (.ireturn, 1) := by decide +kernel
theorem dX7_alike_33 : decode cX7_alike 33 = .ok (.aload_n 0, 1) := by decide +kernel
theorem dX7_alike_34 : decode cX7_alike 34 = .ok (.getfield 48, 3) := by decide +kernel
theorem dX7_alike_37 : decode cX7_alike 37 = .ok (.iload_n 1, 1) := by decide +kernel
theorem dX7_alike_38 : decode cX7_alike 38 = .ok (.iload_n 2, 1) := by decide +kernel
theorem dX7_alike_39 : decode cX7_alike 39 = .ok (.invokevirtual 229, 3) := by decide +kernel
theorem dX7_alike_42 : decode cX7_alike 42 = .ok (.ireturn, 1) := by decide +kernel
theorem dX7_mostAlike_0 : decode cX7_mostAlike 0 = .ok (.aload_n 0, 1) := by decide +kernel
theorem dX7_mostAlike_1 : decode cX7_mostAlike 1 = .ok (.getfield 48, 3) := by decide +kernel
theorem dX7_mostAlike_4 : decode cX7_mostAlike 4 = .ok (.invokevirtual 232, 3) := by decide +kernel
theorem dX7_mostAlike_7 : decode cX7_mostAlike 7 = .ok (.ireturn, 1) := by decide +kernel
theorem dX7_fair_0 : decode cX7_fair 0 = .ok (.iload_n 1, 1) := by decide +kernel
theorem dX7_fair_1 : decode cX7_fair 1 = .ok (.invokestatic 167, 3) := by decide +kernel
theorem dX7_fair_4 : decode cX7_fair 4 = .ok (.ifCond .ne 9, 3) := by decide +kernel
theorem dX7_fair_7 : decode cX7_fair 7 = .ok (.aload_n 0, 1) := by decide +kernel
theorem dX7_fair_8 : decode cX7_fair 8 = .ok (.iconst (-1), 1) := by decide +kernel
theorem dX7_fair_9 : decode cX7_fair 9 = .ok (.invokevirtual 74, 3) := by decide +kernel
theorem dX7_fair_12 : decode cX7_fair 12 = .ok (.ireturn, 1) := by decide +kernel
theorem dX7_fair_13 : decode cX7_fair 13 = .ok (.iload_n 2, 1) := by decide +kernel
theorem dX7_fair_14 : decode cX7_fair 14 = .ok (.ifCond .ge 10, 3) := by decide +kernel
theorem dX7_fair_17 : decode cX7_fair 17 = .ok (.aload_n 0, 1) := by decide +kernel
theorem dX7_fair_18 : decode cX7_fair 18 = .ok (.bipush (-4), 2) := by decide +kernel
theorem dX7_fair_20 : decode cX7_fair 20 = .ok (.invokevirtual 74, 3) := by decide +kernel
theorem dX7_fair_23 : decode cX7_fair 23 = .ok (.ireturn, 1) := by decide +kernel
theorem dX7_fair_24 : decode cX7_fair 24 = .ok (.iload_n 2, 1) := by decide +kernel
theorem dX7_fair_25 : decode cX7_fair 25 = .ok (.bipush 6, 2) := by decide +kernel
theorem dX7_fair_27 : decode cX7_fair 27 = .ok (.if_icmp .le 10, 3) := by decide +kernel
theorem dX7_fair_30 : decode cX7_fair 30 = .ok (.aload_n 0, 1) := by decide +kernel
theorem dX7_fair_31 : decode cX7_fair 31 = .ok (.bipush (-6), 2) := by decide +kernel
theorem dX7_fair_33 : decode cX7_fair 33 = .ok (.invokevirtual 74, 3) := by decide +kernel
theorem dX7_fair_36 : decode cX7_fair 36 = .ok (.ireturn, 1) := by decide +kernel
theorem dX7_fair_37 : decode cX7_fair 37 = .ok (.iload_n 2, 1) := by decide +kernel
theorem dX7_fair_38 : decode cX7_fair 38 = .ok (.ifCond .ne 21, 3) := by decide +kernel
theorem dX7_fair_41 : decode cX7_fair 41 = .ok (.aload_n 0, 1) := by decide +kernel
theorem dX7_fair_42 : decode cX7_fair 42 = .ok (.getfield 48, 3) := by decide +kernel
theorem dX7_fair_45 : decode cX7_fair 45 = .ok (.aload_n 0, 1) := by decide +kernel
theorem dX7_fair_46 : decode cX7_fair 46 = .ok (.getfield 10, 3) := by decide +kernel
theorem dX7_fair_49 : decode cX7_fair 49 = .ok (.invokevirtual 204, 3) := by decide +kernel
theorem dX7_fair_52 : decode cX7_fair 52 = .ok (.iload_n 1, 1) := by decide +kernel
theorem dX7_fair_53 : decode cX7_fair 53 = .ok (.invokevirtual 235, 3) := by decide +kernel
theorem dX7_fair_56 : decode cX7_fair 56 = .ok (.goto 12, 3) := by decide +kernel
theorem dX7_fair_59 : decode cX7_fair 59 = .ok (.aload_n 0, 1) := by decide +kernel
theorem dX7_fair_60 : decode cX7_fair 60 = .ok (.getfield 48, 3) := by decide +kernel
theorem dX7_fair_63 : decode cX7_fair 63 = .ok (.iload_n 1, 1) := by decide +kernel
theorem dX7_fair_64 : decode cX7_fair 64 = .ok (.iload_n 2, 1) := by decide +kernel
theorem dX7_fair_65 : decode cX7_fair 65 = .ok (.invokevirtual 238, 3) := by decide +kernel
theorem dX7_fair_68 : decode cX7_fair 68 = .ok (.ireturn, 1) := by decide +kernel
theorem dX7_moped_0 : decode cX7_moped 0 = .ok (.iload_n 1, 1) := by decide +kernel
theorem dX7_moped_1 : decode cX7_moped 1 = .ok (.ifCond .ge 10, 3) := by decide +kernel
theorem dX7_moped_4 : decode cX7_moped 4 = .ok (.aload_n 0, 1) := by decide +kernel
theorem dX7_moped_5 : decode cX7_moped 5 = .ok (.bipush (-4), 2) := by decide +kernel
theorem dX7_moped_7 : decode cX7_moped 7 = .ok (.invokevirtual 74, 3) := by decide +kernel
theorem dX7_moped_10 : decode cX7_moped 10 = .ok (.ireturn, 1) := by decide +kernel
theorem dX7_moped_11 : decode cX7_moped 11 = .ok (.iload_n 1, 1) := by decide +kernel
theorem dX7_moped_12 : decode cX7_moped 12 = .ok (.bipush 60, 2) := by decide +kernel
theorem dX7_moped_14 : decode cX7_moped 14 = .ok (.if_icmp .le 10, 3) := by decide +kernel
theorem dX7_moped_17 : decode cX7_moped 17 = .ok (.aload_n 0, 1) := by decide +kernel
theorem dX7_moped_18 : decode cX7_moped 18 = .ok (.bipush (-6), 2) := by decide +kernel
theorem dX7_moped_20 : decode cX7_moped 20 = .ok (.invokevirtual 74, 3) := by decide +kernel
theorem dX7_moped_23 : decode cX7_moped 23 = .ok (.ireturn, 1) := by decide +kernel
theorem dX7_moped_24 : decode cX7_moped 24 = .ok (.iload_n 2, 1) := by decide +kernel
theorem dX7_moped_25 : decode cX7_moped 25 = .ok (.lookupswitch 44 #[(0, 27), (1, 36)], 27) := by decide +kernel
theorem dX7_moped_52 : decode cX7_moped 52 = .ok (.aload_n 0, 1) := by decide +kernel
theorem dX7_moped_53 : decode cX7_moped 53 = .ok (.getfield 48, 3) := by decide +kernel
theorem dX7_moped_56 : decode cX7_moped 56 = .ok (.iload_n 1, 1) := by decide +kernel
theorem dX7_moped_57 : decode cX7_moped 57 = .ok (.invokevirtual 241, 3) := by decide +kernel
theorem dX7_moped_60 : decode cX7_moped 60 = .ok (.ireturn, 1) := by decide +kernel
theorem dX7_moped_61 : decode cX7_moped 61 = .ok (.aload_n 0, 1) := by decide +kernel
theorem dX7_moped_62 : decode cX7_moped 62 = .ok (.getfield 48, 3) := by decide +kernel
theorem dX7_moped_65 : decode cX7_moped 65 = .ok (.invokevirtual 244, 3) := by decide +kernel
theorem dX7_moped_68 : decode cX7_moped 68 = .ok (.ireturn, 1) := by decide +kernel
theorem dX7_moped_69 : decode cX7_moped 69 = .ok (.aload_n 0, 1) := by decide +kernel
theorem dX7_moped_70 : decode cX7_moped 70 = .ok (.bipush (-2), 2) := by decide +kernel
theorem dX7_moped_72 : decode cX7_moped 72 = .ok (.invokevirtual 74, 3) := by decide +kernel
theorem dX7_moped_75 : decode cX7_moped 75 = .ok (.ireturn, 1) := by decide +kernel
theorem dX7_made_0 : decode cX7_made 0 = .ok (.iload_n 1, 1) := by decide +kernel
theorem dX7_made_1 : decode cX7_made 1 = .ok (.ifCond .lt 12, 3) := by decide +kernel
theorem dX7_made_4 : decode cX7_made 4 = .ok (.iload_n 2, 1) := by decide +kernel
theorem dX7_made_5 : decode cX7_made 5 = .ok (.iconst 1, 1) := by decide +kernel
theorem dX7_made_6 : decode cX7_made 6 = .ok (.if_icmp .lt 7, 3) := by decide +kernel
theorem dX7_made_9 : decode cX7_made 9 = .ok (.iload_n 3, 1) := by decide +kernel
theorem dX7_made_10 : decode cX7_made 10 = .ok (.ifCond .ge 10, 3) := by decide +kernel
theorem dX7_made_13 : decode cX7_made 13 = .ok (.aload_n 0, 1) := by decide +kernel
theorem dX7_made_14 : decode cX7_made 14 = .ok (.bipush (-4), 2) := by decide +kernel
theorem dX7_made_16 : decode cX7_made 16 = .ok (.invokevirtual 74, 3) := by decide +kernel
theorem dX7_made_19 : decode cX7_made 19 = .ok (.ireturn, 1) := by decide +kernel
theorem dX7_made_20 : decode cX7_made 20 = .ok (.iload_n 1, 1) := by decide +kernel
theorem dX7_made_21 : decode cX7_made 21 = .ok (.bipush 64, 2) := by decide +kernel
theorem dX7_made_23 : decode cX7_made 23 = .ok (.if_icmp .ge 15, 3) := by decide +kernel
theorem dX7_made_26 : decode cX7_made 26 = .ok (.iload_n 2, 1) := by decide +kernel
theorem dX7_made_27 : decode cX7_made 27 = .ok (.bipush 72, 2) := by decide +kernel
theorem dX7_made_29 : decode cX7_made 29 = .ok (.if_icmp .gt 9, 3) := by decide +kernel
theorem dX7_made_32 : decode cX7_made 32 = .ok (.iload_n 3, 1) := by decide +kernel
theorem dX7_made_33 : decode cX7_made 33 = .ok (.bipush 99, 2) := by decide +kernel
theorem dX7_made_35 : decode cX7_made 35 = .ok (.if_icmp .le 10, 3) := by decide +kernel
theorem dX7_made_38 : decode cX7_made 38 = .ok (.aload_n 0, 1) := by decide +kernel
theorem dX7_made_39 : decode cX7_made 39 = .ok (.bipush (-6), 2) := by decide +kernel
theorem dX7_made_41 : decode cX7_made 41 = .ok (.invokevirtual 74, 3) := by decide +kernel
theorem dX7_made_44 : decode cX7_made 44 = .ok (.ireturn, 1) := by decide +kernel
theorem dX7_made_45 : decode cX7_made 45 = .ok (.aload_n 0, 1) := by decide +kernel
theorem dX7_made_46 : decode cX7_made 46 = .ok (.getfield 48, 3) := by decide +kernel
theorem dX7_made_49 : decode cX7_made 49 = .ok (.iload_n 1, 1) := by decide +kernel
theorem dX7_made_50 : decode cX7_made 50 = .ok (.iload_n 2, 1) := by decide +kernel
theorem dX7_made_51 : decode cX7_made 51 = .ok (.iload_n 3, 1) := by decide +kernel
theorem dX7_made_52 : decode cX7_made 52 = .ok (.invokevirtual 247, 3) := by decide +kernel
theorem dX7_made_55 : decode cX7_made 55 = .ok (.ireturn, 1) := by decide +kernel
theorem dX7_unlike_0 : decode cX7_unlike 0 = .ok (.aload_n 0, 1) := by decide +kernel
theorem dX7_unlike_1 : decode cX7_unlike 1 = .ok (.getfield 48, 3) := by decide +kernel
theorem dX7_unlike_4 : decode cX7_unlike 4 = .ok (.invokevirtual 250, 3) := by decide +kernel
theorem dX7_unlike_7 : decode cX7_unlike 7 = .ok (.ireturn, 1) := by decide +kernel
theorem dX7_strict_0 : decode cX7_strict 0 = .ok (.aload_n 0, 1) := by decide +kernel
theorem dX7_strict_1 : decode cX7_strict 1 = .ok (.getfield 10, 3) := by decide +kernel
theorem dX7_strict_4 : decode cX7_strict 4 = .ok (.iload_n 1, 1) := by decide +kernel
theorem dX7_strict_5 : decode cX7_strict 5 = .ok (.invokevirtual 164, 3) := by decide +kernel
theorem dX7_strict_8 : decode cX7_strict 8 = .ok (.ifCond .ne 9, 3) := by decide +kernel
theorem dX7_strict_11 : decode cX7_strict 11 = .ok (.aload_n 0, 1) := by decide +kernel
theorem dX7_strict_12 : decode cX7_strict 12 = .ok (.iconst (-1), 1) := by decide +kernel
theorem dX7_strict_13 : decode cX7_strict 13 = .ok (.invokevirtual 74, 3) := by decide +kernel
theorem dX7_strict_16 : decode cX7_strict 16 = .ok (.ireturn, 1) := by decide +kernel
theorem dX7_strict_17 : decode cX7_strict 17 = .ok (.iload_n 2, 1) := by decide +kernel
theorem dX7_strict_18 : decode cX7_strict 18 = .ok (.ifCond .lt 8, 3) := by decide +kernel
theorem dX7_strict_21 : decode cX7_strict 21 = .ok (.iload_n 2, 1) := by decide +kernel
theorem dX7_strict_22 : decode cX7_strict 22 = .ok (.iconst 2, 1) := by decide +kernel
theorem dX7_strict_23 : decode cX7_strict 23 = .ok (.if_icmp .le 10, 3) := by decide +kernel
theorem dX7_strict_26 : decode cX7_strict 26 = .ok (.aload_n 0, 1) := by decide +kernel
theorem dX7_strict_27 : decode cX7_strict 27 = .ok (.bipush (-2), 2) := by decide +kernel
theorem dX7_strict_29 : decode cX7_strict 29 = .ok (.invokevirtual 74, 3) := by decide +kernel
theorem dX7_strict_32 : decode cX7_strict 32 = .ok (.ireturn, 1) := by decide +kernel
theorem dX7_strict_33 : decode cX7_strict 33 = .ok (.aload_n 0, 1) := by decide +kernel
theorem dX7_strict_34 : decode cX7_strict 34 = .ok (.getfield 41, 3) := by decide +kernel
theorem dX7_strict_37 : decode cX7_strict 37 = .ok (.invokevirtual 253, 3) := by decide +kernel
theorem dX7_strict_40 : decode cX7_strict 40 = .ok (.ifCond .ne 10, 3) := by decide +kernel
theorem dX7_strict_43 : decode cX7_strict 43 = .ok (.aload_n 0, 1) := by decide +kernel
theorem dX7_strict_44 : decode cX7_strict 44 = .ok (.bipush (-3), 2) := by decide +kernel
theorem dX7_strict_46 : decode cX7_strict 46 = .ok (.invokevirtual 74, 3) := by decide +kernel
theorem dX7_strict_49 : decode cX7_strict 49 = .ok (.ireturn, 1) := by decide +kernel
theorem dX7_strict_50 : decode cX7_strict 50 = .ok (.iload_n 2, 1) := by decide +kernel
theorem dX7_strict_51 : decode cX7_strict 51 = .ok (.lookupswitch 43 #[(0, 25), (1, 34)], 25) := by decide +kernel
theorem dX7_strict_76 : decode cX7_strict 76 = .ok (.aload_n 0, 1) := by decide +kernel
theorem dX7_strict_77 : decode cX7_strict 77 = .ok (.getfield 41, 3) := by decide +kernel
theorem dX7_strict_80 : decode cX7_strict 80 = .ok (.iload_n 1, 1) := by decide +kernel
theorem dX7_strict_81 : decode cX7_strict 81 = .ok (.invokevirtual 257, 3) := by decide +kernel
theorem dX7_strict_84 : decode cX7_strict 84 = .ok (.ireturn, 1) := by decide +kernel
theorem dX7_strict_85 : decode cX7_strict 85 = .ok (.aload_n 0, 1) := by decide +kernel
theorem dX7_strict_86 : decode cX7_strict 86 = .ok (.getfield 41, 3) := by decide +kernel
theorem dX7_strict_89 : decode cX7_strict 89 = .ok (.iload_n 1, 1) := by decide +kernel
theorem dX7_strict_90 : decode cX7_strict 90 = .ok (.invokevirtual 260, 3) := by decide +kernel
theorem dX7_strict_93 : decode cX7_strict 93 = .ok (.ireturn, 1) := by decide +kernel
theorem dX7_strict_94 : decode cX7_strict 94 = .ok (.aload_n 0, 1) := by decide +kernel
theorem dX7_strict_95 : decode cX7_strict 95 = .ok (.getfield 41, 3) := by decide +kernel
theorem dX7_strict_98 : decode cX7_strict 98 = .ok (.iload_n 1, 1) := by decide +kernel
theorem dX7_strict_99 : decode cX7_strict 99 = .ok (.invokevirtual 263, 3) := by decide +kernel
theorem dX7_strict_102 : decode cX7_strict 102 = .ok (.ireturn, 1) := by decide +kernel
theorem dX7_queue_0 : decode cX7_queue 0 = .ok (.aload_n 0, 1) := by decide +kernel
theorem dX7_queue_1 : decode cX7_queue 1 = .ok (.getfield 10, 3) := by decide +kernel
theorem dX7_queue_4 : decode cX7_queue 4 = .ok (.iload_n 1, 1) := by decide +kernel
theorem dX7_queue_5 : decode cX7_queue 5 = .ok (.invokevirtual 164, 3) := by decide +kernel
theorem dX7_queue_8 : decode cX7_queue 8 = .ok (.ifCond .ne 9, 3) := by decide +kernel
theorem dX7_queue_11 : decode cX7_queue 11 = .ok (.aload_n 0, 1) := by decide +kernel
theorem dX7_queue_12 : decode cX7_queue 12 = .ok (.iconst (-1), 1) := by decide +kernel
theorem dX7_queue_13 : decode cX7_queue 13 = .ok (.invokevirtual 74, 3) := by decide +kernel
theorem dX7_queue_16 : decode cX7_queue 16 = .ok (.ireturn, 1) := by decide +kernel
theorem dX7_queue_17 : decode cX7_queue 17 = .ok (.iload_n 2, 1) := by decide +kernel
theorem dX7_queue_18 : decode cX7_queue 18 = .ok (.iconst (-1), 1) := by decide +kernel
theorem dX7_queue_19 : decode cX7_queue 19 = .ok (.if_icmp .ge 10, 3) := by decide +kernel
theorem dX7_queue_22 : decode cX7_queue 22 = .ok (.aload_n 0, 1) := by decide +kernel
theorem dX7_queue_23 : decode cX7_queue 23 = .ok (.bipush (-4), 2) := by decide +kernel
theorem dX7_queue_25 : decode cX7_queue 25 = .ok (.invokevirtual 74, 3) := by decide +kernel
theorem dX7_queue_28 : decode cX7_queue 28 = .ok (.ireturn, 1) := by decide +kernel
theorem dX7_queue_29 : decode cX7_queue 29 = .ok (.aload_n 0, 1) := by decide +kernel
theorem dX7_queue_30 : decode cX7_queue 30 = .ok (.getfield 62, 3) := by decide +kernel
theorem dX7_queue_33 : decode cX7_queue 33 = .ok (.iload_n 1, 1) := by decide +kernel
theorem dX7_queue_34 : decode cX7_queue 34 = .ok (.iload_n 2, 1) := by decide +kernel
theorem dX7_queue_35 : decode cX7_queue 35 = .ok (.invokevirtual 266, 3) := by decide +kernel
theorem dX7_queue_38 : decode cX7_queue 38 = .ok (.ireturn, 1) := by decide +kernel
theorem dX7_lessons_0 : decode cX7_lessons 0 = .ok (.aload_n 0, 1) := by decide +kernel
theorem dX7_lessons_1 : decode cX7_lessons 1 = .ok (.getfield 10, 3) := by decide +kernel
theorem dX7_lessons_4 : decode cX7_lessons 4 = .ok (.iload_n 1, 1) := by decide +kernel
theorem dX7_lessons_5 : decode cX7_lessons 5 = .ok (.invokevirtual 120, 3) := by decide +kernel
theorem dX7_lessons_8 : decode cX7_lessons 8 = .ok (.ifCond .eq 21, 3) := by decide +kernel
theorem dX7_lessons_11 : decode cX7_lessons 11 = .ok (.aload_n 0, 1) := by decide +kernel
theorem dX7_lessons_12 : decode cX7_lessons 12 = .ok (.getfield 10, 3) := by decide +kernel
theorem dX7_lessons_15 : decode cX7_lessons 15 = .ok (.iload_n 2, 1) := by decide +kernel
theorem dX7_lessons_16 : decode cX7_lessons 16 = .ok (.invokevirtual 164, 3) := by decide +kernel
theorem dX7_lessons_19 : decode cX7_lessons 19 = .ok (.ifCond .eq 10, 3) := by decide +kernel
theorem dX7_lessons_22 : decode cX7_lessons 22 = .ok (.iload_n 3, 1) := by decide +kernel
theorem dX7_lessons_23 : decode cX7_lessons 23 = .ok (.invokestatic 167, 3) := by decide +kernel
theorem dX7_lessons_26 : decode cX7_lessons 26 = .ok (.ifCond .ne 9, 3) := by decide +kernel
theorem dX7_lessons_29 : decode cX7_lessons 29 = .ok (.aload_n 0, 1) := by decide +kernel
theorem dX7_lessons_30 : decode cX7_lessons 30 = .ok (.iconst (-1), 1) := by decide +kernel
theorem dX7_lessons_31 : decode cX7_lessons 31 = .ok (.invokevirtual 74, 3) := by decide +kernel
theorem dX7_lessons_34 : decode cX7_lessons 34 = .ok (.ireturn, 1) := by decide +kernel
theorem dX7_lessons_35 : decode cX7_lessons 35 = .ok (.aload_n 0, 1) := by decide +kernel
theorem dX7_lessons_36 : decode cX7_lessons 36 = .ok (.getfield 55, 3) := by decide +kernel
theorem dX7_lessons_39 : decode cX7_lessons 39 = .ok (.iload_n 1, 1) := by decide +kernel
theorem dX7_lessons_40 : decode cX7_lessons 40 = .ok (.iload_n 2, 1) := by decide +kernel
theorem dX7_lessons_41 : decode cX7_lessons 41 = .ok (.iload_n 3, 1) := by decide +kernel
theorem dX7_lessons_42 : decode cX7_lessons 42 = .ok (.invokevirtual 269, 3) := by decide +kernel
theorem dX7_lessons_45 : decode cX7_lessons 45 = .ok (.ireturn, 1) := by decide +kernel
theorem dX7_ball_0 : decode cX7_ball 0 = .ok (.aload_n 0, 1) := by decide +kernel
theorem dX7_ball_1 : decode cX7_ball 1 = .ok (.getfield 10, 3) := by decide +kernel
theorem dX7_ball_4 : decode cX7_ball 4 = .ok (.iload_n 1, 1) := by decide +kernel
theorem dX7_ball_5 : decode cX7_ball 5 = .ok (.invokevirtual 120, 3) := by decide +kernel
theorem dX7_ball_8 : decode cX7_ball 8 = .ok (.ifCond .eq 14, 3) := by decide +kernel
theorem dX7_ball_11 : decode cX7_ball 11 = .ok (.aload_n 0, 1) := by decide +kernel
theorem dX7_ball_12 : decode cX7_ball 12 = .ok (.getfield 10, 3) := by decide +kernel
theorem dX7_ball_15 : decode cX7_ball 15 = .ok (.iload_n 2, 1) := by decide +kernel
theorem dX7_ball_16 : decode cX7_ball 16 = .ok (.invokevirtual 164, 3) := by decide +kernel
theorem dX7_ball_19 : decode cX7_ball 19 = .ok (.ifCond .ne 9, 3) := by decide +kernel
theorem dX7_ball_22 : decode cX7_ball 22 = .ok (.aload_n 0, 1) := by decide +kernel
theorem dX7_ball_23 : decode cX7_ball 23 = .ok (.iconst (-1), 1) := by decide +kernel
theorem dX7_ball_24 : decode cX7_ball 24 = .ok (.invokevirtual 210, 3) := by decide +kernel
theorem dX7_ball_27 : decode cX7_ball 27 = .ok (.lreturn, 1) := by decide +kernel
theorem dX7_ball_28 : decode cX7_ball 28 = .ok (.iload_n 3, 1) := by decide +kernel
theorem dX7_ball_29 : decode cX7_ball 29 = .ok (.iconst 2, 1) := by decide +kernel
theorem dX7_ball_30 : decode cX7_ball 30 = .ok (.if_icmp .ge 10, 3) := by decide +kernel
theorem dX7_ball_33 : decode cX7_ball 33 = .ok (.aload_n 0, 1) := by decide +kernel
theorem dX7_ball_34 : decode cX7_ball 34 = .ok (.bipush (-4), 2) := by decide +kernel
theorem dX7_ball_36 : decode cX7_ball 36 = .ok (.invokevirtual 210, 3) := by decide +kernel
theorem dX7_ball_39 : decode cX7_ball 39 = .ok (.lreturn, 1) := by decide +kernel
theorem dX7_ball_40 : decode cX7_ball 40 = .ok (.iload_n 3, 1) := by decide +kernel
theorem dX7_ball_41 : decode cX7_ball 41 = .ok (.bipush 20, 2) := by decide +kernel
theorem dX7_ball_43 : decode cX7_ball 43 = .ok (.if_icmp .le 10, 3) := by decide +kernel
theorem dX7_ball_46 : decode cX7_ball 46 = .ok (.aload_n 0, 1) := by decide +kernel
theorem dX7_ball_47 : decode cX7_ball 47 = .ok (.bipush (-6), 2) := by decide +kernel
theorem dX7_ball_49 : decode cX7_ball 49 = .ok (.invokevirtual 210, 3) := by decide +kernel
theorem dX7_ball_52 : decode cX7_ball 52 = .ok (.lreturn, 1) := by decide +kernel
theorem dX7_ball_53 : decode cX7_ball 53 = .ok (.iload 4, 2) := by decide +kernel
theorem dX7_ball_55 : decode cX7_ball 55 = .ok (.invokestatic 214, 3) := by decide +kernel
theorem dX7_ball_58 : decode cX7_ball 58 = .ok (.ifCond .ne 10, 3) := by decide +kernel
theorem dX7_ball_61 : decode cX7_ball 61 = .ok (.aload_n 0, 1) := by decide +kernel
theorem dX7_ball_62 : decode cX7_ball 62 = .ok (.bipush (-2), 2) := by decide +kernel
theorem dX7_ball_64 : decode cX7_ball 64 = .ok (.invokevirtual 210, 3) := by decide +kernel
theorem dX7_ball_67 : decode cX7_ball 67 = .ok (.lreturn, 1) := by decide +kernel
theorem dX7_ball_68 : decode cX7_ball 68 = .ok (.aload_n 0, 1) := by decide +kernel
theorem dX7_ball_69 : decode cX7_ball 69 = .ok (.getfield 10, 3) := by decide +kernel
theorem dX7_ball_72 : decode cX7_ball 72 = .ok (.getfield 170, 3) := by decide +kernel
theorem dX7_ball_75 : decode cX7_ball 75 = .ok (.iload_n 2, 1) := by decide +kernel
theorem dX7_ball_76 : decode cX7_ball 76 = .ok (.invokestatic 100, 3) := by decide +kernel
theorem dX7_ball_79 : decode cX7_ball 79 = .ok (.invokestatic 217, 3) := by decide +kernel
theorem dX7_ball_82 : decode cX7_ball 82 = .ok (.istore 5, 2) := by decide +kernel
theorem dX7_ball_84 : decode cX7_ball 84 = .ok (.aload_n 0, 1) := by decide +kernel
theorem dX7_ball_85 : decode cX7_ball 85 = .ok (.getfield 55, 3) := by decide +kernel
theorem dX7_ball_88 : decode cX7_ball 88 = .ok (.iload_n 1, 1) := by decide +kernel
theorem dX7_ball_89 : decode cX7_ball 89 = .ok (.iload_n 2, 1) := by decide +kernel
theorem dX7_ball_90 : decode cX7_ball 90 = .ok (.iload_n 3, 1) := by decide +kernel
theorem dX7_ball_91 : decode cX7_ball 91 = .ok (.invokevirtual 272, 3) := by decide +kernel
theorem dX7_ball_94 : decode cX7_ball 94 = .ok (.iload_n 3, 1) := by decide +kernel
theorem dX7_ball_95 : decode cX7_ball 95 = .ok (.iload 5, 2) := by decide +kernel
theorem dX7_ball_97 : decode cX7_ball 97 = .ok (.invokestatic 276, 3) := by decide +kernel
theorem dX7_ball_100 : decode cX7_ball 100 = .ok (.iload 4, 2) := by decide +kernel
theorem dX7_ball_102 : decode cX7_ball 102 = .ok (.invokestatic 225, 3) := by decide +kernel
theorem dX7_ball_105 : decode cX7_ball 105 = .ok (.lreturn, 1) := by decide +kernel
theorem dX7_crowded_0 : decode cX7_crowded 0 = .ok (.iload_n 1, 1) := by decide +kernel
theorem dX7_crowded_1 : decode cX7_crowded 1 = .ok (.tableswitch 75 0 2 #[27, 35, 50], 27) := by decide +kernel
theorem dX7_crowded_28 : decode cX7_crowded 28 = .ok (.aload_n 0, 1) := by decide +kernel
theorem dX7_crowded_29 : decode cX7_crowded 29 = .ok (.getfield 48, 3) := by decide +kernel
theorem dX7_crowded_32 : decode cX7_crowded 32 = .ok (.invokevirtual 280, 3) := by decide +kernel
theorem dX7_crowded_35 : decode cX7_crowded 35 = .ok (.ireturn, 1) := by decide +kernel
theorem dX7_crowded_36 : decode cX7_crowded 36 = .ok (.aload_n 0, 1) := by decide +kernel
theorem dX7_crowded_37 : decode cX7_crowded 37 = .ok (.getfield 48, 3) := by decide +kernel
theorem dX7_crowded_40 : decode cX7_crowded 40 = .ok (.aload_n 0, 1) := by decide +kernel
theorem dX7_crowded_41 : decode cX7_crowded 41 = .ok (.getfield 48, 3) := by decide +kernel
theorem dX7_crowded_44 : decode cX7_crowded 44 = .ok (.invokevirtual 280, 3) := by decide +kernel
theorem dX7_crowded_47 : decode cX7_crowded 47 = .ok (.invokevirtual 283, 3) := by decide +kernel
theorem dX7_crowded_50 : decode cX7_crowded 50 = .ok (.ireturn, 1) := by decide +kernel
theorem dX7_crowded_51 : decode cX7_crowded 51 = .ok (.aload_n 0, 1) := by decide +kernel
theorem dX7_crowded_52 : decode cX7_crowded 52 = .ok (.getfield 10, 3) := by decide +kernel
theorem dX7_crowded_55 : decode cX7_crowded 55 = .ok (.invokevirtual 286, 3) := by decide +kernel
theorem dX7_crowded_58 : decode cX7_crowded 58 = .ok (.aload_n 0, 1) := by decide +kernel
theorem dX7_crowded_59 : decode cX7_crowded 59 = .ok (.getfield 48, 3) := by decide +kernel
theorem dX7_crowded_62 : decode cX7_crowded 62 = .ok (.aload_n 0, 1) := by decide +kernel
theorem dX7_crowded_63 : decode cX7_crowded 63 = .ok (.getfield 10, 3) := by decide +kernel
theorem dX7_crowded_66 : decode cX7_crowded 66 = .ok (.getfield 222, 3) := by decide +kernel
theorem dX7_crowded_69 : decode cX7_crowded 69 = .ok (.invokevirtual 241, 3) := by decide +kernel
theorem dX7_crowded_72 : decode cX7_crowded 72 = .ok (.iconst (-1), 1) := by decide +kernel
theorem dX7_crowded_73 : decode cX7_crowded 73 = .ok (.ixor, 1) := by decide +kernel
theorem dX7_crowded_74 : decode cX7_crowded 74 = .ok (.iand, 1) := by decide +kernel
theorem dX7_crowded_75 : decode cX7_crowded 75 = .ok (.ireturn, 1) := by decide +kernel
theorem dX7_crowded_76 : decode cX7_crowded 76 = .ok (.aload_n 0, 1) := by decide +kernel
theorem dX7_crowded_77 : decode cX7_crowded 77 = .ok (.bipush (-2), 2) := by decide +kernel
theorem dX7_crowded_79 : decode cX7_crowded 79 = .ok (.invokevirtual 74, 3) := by decide +kernel
theorem dX7_crowded_82 : decode cX7_crowded 82 = .ok (.ireturn, 1) := by decide +kernel
theorem dX7_rank_0 : decode cX7_rank 0 = .ok (.aload_n 0, 1) := by decide +kernel
theorem dX7_rank_1 : decode cX7_rank 1 = .ok (.getfield 10, 3) := by decide +kernel
theorem dX7_rank_4 : decode cX7_rank 4 = .ok (.iload_n 1, 1) := by decide +kernel
theorem dX7_rank_5 : decode cX7_rank 5 = .ok (.invokevirtual 164, 3) := by decide +kernel
theorem dX7_rank_8 : decode cX7_rank 8 = .ok (.ifCond .ne 9, 3) := by decide +kernel
theorem dX7_rank_11 : decode cX7_rank 11 = .ok (.aload_n 0, 1) := by decide +kernel
theorem dX7_rank_12 : decode cX7_rank 12 = .ok (.iconst (-1), 1) := by decide +kernel
theorem dX7_rank_13 : decode cX7_rank 13 = .ok (.invokevirtual 74, 3) := by decide +kernel
theorem dX7_rank_16 : decode cX7_rank 16 = .ok (.ireturn, 1) := by decide +kernel
theorem dX7_rank_17 : decode cX7_rank 17 = .ok (.iload_n 2, 1) := by decide +kernel
theorem dX7_rank_18 : decode cX7_rank 18 = .ok (.ifCond .ge 10, 3) := by decide +kernel
theorem dX7_rank_21 : decode cX7_rank 21 = .ok (.aload_n 0, 1) := by decide +kernel
theorem dX7_rank_22 : decode cX7_rank 22 = .ok (.bipush (-4), 2) := by decide +kernel
theorem dX7_rank_24 : decode cX7_rank 24 = .ok (.invokevirtual 74, 3) := by decide +kernel
theorem dX7_rank_27 : decode cX7_rank 27 = .ok (.ireturn, 1) := by decide +kernel
theorem dX7_rank_28 : decode cX7_rank 28 = .ok (.aload_n 0, 1) := by decide +kernel
theorem dX7_rank_29 : decode cX7_rank 29 = .ok (.getfield 62, 3) := by decide +kernel
theorem dX7_rank_32 : decode cX7_rank 32 = .ok (.iload_n 1, 1) := by decide +kernel
theorem dX7_rank_33 : decode cX7_rank 33 = .ok (.iload_n 2, 1) := by decide +kernel
theorem dX7_rank_34 : decode cX7_rank 34 = .ok (.invokevirtual 289, 3) := by decide +kernel
theorem dX7_rank_37 : decode cX7_rank 37 = .ok (.ireturn, 1) := by decide +kernel
theorem dX7_skillWanted_0 : decode cX7_skillWanted 0 = .ok (.aload_n 0, 1) := by decide +kernel
theorem dX7_skillWanted_1 : decode cX7_skillWanted 1 = .ok (.getfield 10, 3) := by decide +kernel
theorem dX7_skillWanted_4 : decode cX7_skillWanted 4 = .ok (.iload_n 1, 1) := by decide +kernel
theorem dX7_skillWanted_5 : decode cX7_skillWanted 5 = .ok (.invokevirtual 120, 3) := by decide +kernel
theorem dX7_skillWanted_8 : decode cX7_skillWanted 8 = .ok (.ifCond .eq 21, 3) := by decide +kernel
theorem dX7_skillWanted_11 : decode cX7_skillWanted 11 = .ok (.aload_n 0, 1) := by decide +kernel
theorem dX7_skillWanted_12 : decode cX7_skillWanted 12 = .ok (.getfield 10, 3) := by decide +kernel
theorem dX7_skillWanted_15 : decode cX7_skillWanted 15 = .ok (.iload_n 2, 1) := by decide +kernel
theorem dX7_skillWanted_16 : decode cX7_skillWanted 16 = .ok (.invokevirtual 164, 3) := by decide +kernel
theorem dX7_skillWanted_19 : decode cX7_skillWanted 19 = .ok (.ifCond .eq 10, 3) := by decide +kernel
theorem dX7_skillWanted_22 : decode cX7_skillWanted 22 = .ok (.iload_n 3, 1) := by decide +kernel
theorem dX7_skillWanted_23 : decode cX7_skillWanted 23 = .ok (.invokestatic 167, 3) := by decide +kernel
theorem dX7_skillWanted_26 : decode cX7_skillWanted 26 = .ok (.ifCond .ne 9, 3) := by decide +kernel
theorem dX7_skillWanted_29 : decode cX7_skillWanted 29 = .ok (.aload_n 0, 1) := by decide +kernel
theorem dX7_skillWanted_30 : decode cX7_skillWanted 30 = .ok (.iconst (-1), 1) := by decide +kernel
theorem dX7_skillWanted_31 : decode cX7_skillWanted 31 = .ok (.invokevirtual 74, 3) := by decide +kernel
theorem dX7_skillWanted_34 : decode cX7_skillWanted 34 = .ok (.ireturn, 1) := by decide +kernel
theorem dX7_skillWanted_35 : decode cX7_skillWanted 35 = .ok (.aload_n 0, 1) := by decide +kernel
theorem dX7_skillWanted_36 : decode cX7_skillWanted 36 = .ok (.getfield 55, 3) := by decide +kernel
theorem dX7_skillWanted_39 : decode cX7_skillWanted 39 = .ok (.iload_n 1, 1) := by decide +kernel
theorem dX7_skillWanted_40 : decode cX7_skillWanted 40 = .ok (.iload_n 2, 1) := by decide +kernel
theorem dX7_skillWanted_41 : decode cX7_skillWanted 41 = .ok (.iload_n 3, 1) := by decide +kernel
theorem dX7_skillWanted_42 : decode cX7_skillWanted 42 = .ok (.invokevirtual 292, 3) := by decide +kernel
theorem dX7_skillWanted_45 : decode cX7_skillWanted 45 = .ok (.ireturn, 1) := by decide +kernel
theorem dX7_limitWanted_0 : decode cX7_limitWanted 0 = .ok (.aload_n 0, 1) := by decide +kernel
theorem dX7_limitWanted_1 : decode cX7_limitWanted 1 = .ok (.getfield 62, 3) := by decide +kernel
theorem dX7_limitWanted_4 : decode cX7_limitWanted 4 = .ok (.invokevirtual 295, 3) := by decide +kernel
theorem dX7_limitWanted_7 : decode cX7_limitWanted 7 = .ok (.ireturn, 1) := by decide +kernel
theorem dX7_rush_0 : decode cX7_rush 0 = .ok (.aload_n 0, 1) := by decide +kernel
theorem dX7_rush_1 : decode cX7_rush 1 = .ok (.getfield 10, 3) := by decide +kernel
theorem dX7_rush_4 : decode cX7_rush 4 = .ok (.iload_n 1, 1) := by decide +kernel
theorem dX7_rush_5 : decode cX7_rush 5 = .ok (.invokevirtual 164, 3) := by decide +kernel
theorem dX7_rush_8 : decode cX7_rush 8 = .ok (.ifCond .ne 9, 3) := by decide +kernel
theorem dX7_rush_11 : decode cX7_rush 11 = .ok (.aload_n 0, 1) := by decide +kernel
theorem dX7_rush_12 : decode cX7_rush 12 = .ok (.iconst (-1), 1) := by decide +kernel
theorem dX7_rush_13 : decode cX7_rush 13 = .ok (.invokevirtual 74, 3) := by decide +kernel
theorem dX7_rush_16 : decode cX7_rush 16 = .ok (.ireturn, 1) := by decide +kernel
theorem dX7_rush_17 : decode cX7_rush 17 = .ok (.iload_n 2, 1) := by decide +kernel
theorem dX7_rush_18 : decode cX7_rush 18 = .ok (.lookupswitch 52 #[(0, 26), (1, 35)], 26) := by decide +kernel
theorem dX7_rush_44 : decode cX7_rush 44 = .ok (.aload_n 0, 1) := by decide +kernel
theorem dX7_rush_45 : decode cX7_rush 45 = .ok (.getfield 62, 3) := by decide +kernel
theorem dX7_rush_48 : decode cX7_rush 48 = .ok (.iload_n 1, 1) := by decide +kernel
theorem dX7_rush_49 : decode cX7_rush 49 = .ok (.invokevirtual 298, 3) := by decide +kernel
theorem dX7_rush_52 : decode cX7_rush 52 = .ok (.ireturn, 1) := by decide +kernel
theorem dX7_rush_53 : decode cX7_rush 53 = .ok (.aload_n 0, 1) := by decide +kernel
theorem dX7_rush_54 : decode cX7_rush 54 = .ok (.getfield 62, 3) := by decide +kernel
theorem dX7_rush_57 : decode cX7_rush 57 = .ok (.iload_n 1, 1) := by decide +kernel
theorem dX7_rush_58 : decode cX7_rush 58 = .ok (.aload_n 0, 1) := by decide +kernel
theorem dX7_rush_59 : decode cX7_rush 59 = .ok (.getfield 62, 3) := by decide +kernel
theorem dX7_rush_62 : decode cX7_rush 62 = .ok (.iload_n 1, 1) := by decide +kernel
theorem dX7_rush_63 : decode cX7_rush 63 = .ok (.invokevirtual 298, 3) := by decide +kernel
theorem dX7_rush_66 : decode cX7_rush 66 = .ok (.invokevirtual 301, 3) := by decide +kernel
theorem dX7_rush_69 : decode cX7_rush 69 = .ok (.ireturn, 1) := by decide +kernel
theorem dX7_rush_70 : decode cX7_rush 70 = .ok (.aload_n 0, 1) := by decide +kernel
theorem dX7_rush_71 : decode cX7_rush 71 = .ok (.bipush (-2), 2) := by decide +kernel
theorem dX7_rush_73 : decode cX7_rush 73 = .ok (.invokevirtual 74, 3) := by decide +kernel
theorem dX7_rush_76 : decode cX7_rush 76 = .ok (.ireturn, 1) := by decide +kernel
theorem dX7_newcomer_0 : decode cX7_newcomer 0 = .ok (.iload_n 1, 1) := by decide +kernel
theorem dX7_newcomer_1 : decode cX7_newcomer 1 = .ok (.ifCond .ge 10, 3) := by decide +kernel
theorem dX7_newcomer_4 : decode cX7_newcomer 4 = .ok (.aload_n 0, 1) := by decide +kernel
theorem dX7_newcomer_5 : decode cX7_newcomer 5 = .ok (.bipush (-4), 2) := by decide +kernel
theorem dX7_newcomer_7 : decode cX7_newcomer 7 = .ok (.invokevirtual 74, 3) := by decide +kernel
theorem dX7_newcomer_10 : decode cX7_newcomer 10 = .ok (.ireturn, 1) := by decide +kernel
theorem dX7_newcomer_11 : decode cX7_newcomer 11 = .ok (.iload_n 1, 1) := by decide +kernel
theorem dX7_newcomer_12 : decode cX7_newcomer 12 = .ok (.bipush 9, 2) := by decide +kernel
theorem dX7_newcomer_14 : decode cX7_newcomer 14 = .ok (.if_icmp .le 10, 3) := by decide +kernel
theorem dX7_newcomer_17 : decode cX7_newcomer 17 = .ok (.aload_n 0, 1) := by decide +kernel
theorem dX7_newcomer_18 : decode cX7_newcomer 18 = .ok (.bipush (-6), 2) := by decide +kernel
theorem dX7_newcomer_20 : decode cX7_newcomer 20 = .ok (.invokevirtual 74, 3) := by decide +kernel
theorem dX7_newcomer_23 : decode cX7_newcomer 23 = .ok (.ireturn, 1) := by decide +kernel
theorem dX7_newcomer_24 : decode cX7_newcomer 24 = .ok (.aload_n 0, 1) := by decide +kernel
theorem dX7_newcomer_25 : decode cX7_newcomer 25 = .ok (.getfield 10, 3) := by decide +kernel
theorem dX7_newcomer_28 : decode cX7_newcomer 28 = .ok (.iload_n 1, 1) := by decide +kernel
theorem dX7_newcomer_29 : decode cX7_newcomer 29 = .ok (.iconst 0, 1) := by decide +kernel
theorem dX7_newcomer_30 : decode cX7_newcomer 30 = .ok (.aload_n 0, 1) := by decide +kernel
theorem dX7_newcomer_31 : decode cX7_newcomer 31 = .ok (.getfield 10, 3) := by decide +kernel
theorem dX7_newcomer_34 : decode cX7_newcomer 34 = .ok (.getfield 110, 3) := by decide +kernel
theorem dX7_newcomer_37 : decode cX7_newcomer 37 = .ok (.invokevirtual 201, 3) := by decide +kernel
theorem dX7_newcomer_40 : decode cX7_newcomer 40 = .ok (.ireturn, 1) := by decide +kernel
theorem dX7_gain_0 : decode cX7_gain 0 = .ok (.iload_n 2, 1) := by decide +kernel
theorem dX7_gain_1 : decode cX7_gain 1 = .ok (.iconst (-1), 1) := by decide +kernel
theorem dX7_gain_2 : decode cX7_gain 2 = .ok (.if_icmp .ne 7, 3) := by decide +kernel
theorem dX7_gain_5 : decode cX7_gain 5 = .ok (.iconst 1, 1) := by decide +kernel
theorem dX7_gain_6 : decode cX7_gain 6 = .ok (.goto 4, 3) := by decide +kernel
theorem dX7_gain_9 : decode cX7_gain 9 = .ok (.iconst 0, 1) := by decide +kernel
theorem dX7_gain_10 : decode cX7_gain 10 = .ok (.istore_n 3, 1) := by decide +kernel
theorem dX7_gain_11 : decode cX7_gain 11 = .ok (.aload_n 0, 1) := by decide +kernel
theorem dX7_gain_12 : decode cX7_gain 12 = .ok (.getfield 10, 3) := by decide +kernel
theorem dX7_gain_15 : decode cX7_gain 15 = .ok (.iload_n 1, 1) := by decide +kernel
theorem dX7_gain_16 : decode cX7_gain 16 = .ok (.invokevirtual 120, 3) := by decide +kernel
theorem dX7_gain_19 : decode cX7_gain 19 = .ok (.ifCond .eq 18, 3) := by decide +kernel
theorem dX7_gain_22 : decode cX7_gain 22 = .ok (.iload_n 3, 1) := by decide +kernel
theorem dX7_gain_23 : decode cX7_gain 23 = .ok (.ifCond .ne 20, 3) := by decide +kernel
theorem dX7_gain_26 : decode cX7_gain 26 = .ok (.aload_n 0, 1) := by decide +kernel
theorem dX7_gain_27 : decode cX7_gain 27 = .ok (.getfield 10, 3) := by decide +kernel
theorem dX7_gain_30 : decode cX7_gain 30 = .ok (.iload_n 2, 1) := by decide +kernel
theorem dX7_gain_31 : decode cX7_gain 31 = .ok (.invokevirtual 93, 3) := by decide +kernel
theorem dX7_gain_34 : decode cX7_gain 34 = .ok (.ifCond .ne 9, 3) := by decide +kernel
theorem dX7_gain_37 : decode cX7_gain 37 = .ok (.aload_n 0, 1) := by decide +kernel
theorem dX7_gain_38 : decode cX7_gain 38 = .ok (.iconst (-1), 1) := by decide +kernel
theorem dX7_gain_39 : decode cX7_gain 39 = .ok (.invokevirtual 74, 3) := by decide +kernel
theorem dX7_gain_42 : decode cX7_gain 42 = .ok (.ireturn, 1) := by decide +kernel
theorem dX7_gain_43 : decode cX7_gain 43 = .ok (.iload_n 3, 1) := by decide +kernel
theorem dX7_gain_44 : decode cX7_gain 44 = .ok (.ifCond .eq 14, 3) := by decide +kernel
theorem dX7_gain_47 : decode cX7_gain 47 = .ok (.aload_n 0, 1) := by decide +kernel
theorem dX7_gain_48 : decode cX7_gain 48 = .ok (.getfield 55, 3) := by decide +kernel
theorem dX7_gain_51 : decode cX7_gain 51 = .ok (.iload_n 1, 1) := by decide +kernel
theorem dX7_gain_52 : decode cX7_gain 52 = .ok (.invokevirtual 304, 3) := by decide +kernel
theorem dX7_gain_55 : decode cX7_gain 55 = .ok (.goto 12, 3) := by decide +kernel
theorem dX7_gain_58 : decode cX7_gain 58 = .ok (.aload_n 0, 1) := by decide +kernel
theorem dX7_gain_59 : decode cX7_gain 59 = .ok (.getfield 55, 3) := by decide +kernel
theorem dX7_gain_62 : decode cX7_gain 62 = .ok (.iload_n 1, 1) := by decide +kernel
theorem dX7_gain_63 : decode cX7_gain 63 = .ok (.iload_n 2, 1) := by decide +kernel
theorem dX7_gain_64 : decode cX7_gain 64 = .ok (.invokevirtual 307, 3) := by decide +kernel
theorem dX7_gain_67 : decode cX7_gain 67 = .ok (.ireturn, 1) := by decide +kernel
theorem dX7_career_0 : decode cX7_career 0 = .ok (.aload_n 0, 1) := by decide +kernel
theorem dX7_career_1 : decode cX7_career 1 = .ok (.getfield 10, 3) := by decide +kernel
theorem dX7_career_4 : decode cX7_career 4 = .ok (.iload_n 1, 1) := by decide +kernel
theorem dX7_career_5 : decode cX7_career 5 = .ok (.invokevirtual 120, 3) := by decide +kernel
theorem dX7_career_8 : decode cX7_career 8 = .ok (.ifCond .ne 9, 3) := by decide +kernel
theorem dX7_career_11 : decode cX7_career 11 = .ok (.aload_n 0, 1) := by decide +kernel
theorem dX7_career_12 : decode cX7_career 12 = .ok (.iconst (-1), 1) := by decide +kernel
theorem dX7_career_13 : decode cX7_career 13 = .ok (.invokevirtual 74, 3) := by decide +kernel
theorem dX7_career_16 : decode cX7_career 16 = .ok (.ireturn, 1) := by decide +kernel
theorem dX7_career_17 : decode cX7_career 17 = .ok (.iload_n 2, 1) := by decide +kernel
theorem dX7_career_18 : decode cX7_career 18 = .ok (.ifCond .ge 10, 3) := by decide +kernel
theorem dX7_career_21 : decode cX7_career 21 = .ok (.aload_n 0, 1) := by decide +kernel
theorem dX7_career_22 : decode cX7_career 22 = .ok (.bipush (-4), 2) := by decide +kernel
theorem dX7_career_24 : decode cX7_career 24 = .ok (.invokevirtual 74, 3) := by decide +kernel
theorem dX7_career_27 : decode cX7_career 27 = .ok (.ireturn, 1) := by decide +kernel
theorem dX7_career_28 : decode cX7_career 28 = .ok (.iload_n 2, 1) := by decide +kernel
theorem dX7_career_29 : decode cX7_career 29 = .ok (.bipush 60, 2) := by decide +kernel
theorem dX7_career_31 : decode cX7_career 31 = .ok (.if_icmp .le 10, 3) := by decide +kernel
theorem dX7_career_34 : decode cX7_career 34 = .ok (.aload_n 0, 1) := by decide +kernel
theorem dX7_career_35 : decode cX7_career 35 = .ok (.bipush (-6), 2) := by decide +kernel
theorem dX7_career_37 : decode cX7_career 37 = .ok (.invokevirtual 74, 3) := by decide +kernel
theorem dX7_career_40 : decode cX7_career 40 = .ok (.ireturn, 1) := by decide +kernel
theorem dX7_career_41 : decode cX7_career 41 = .ok (.aload_n 0, 1) := by decide +kernel
theorem dX7_career_42 : decode cX7_career 42 = .ok (.getfield 55, 3) := by decide +kernel
theorem dX7_career_45 : decode cX7_career 45 = .ok (.iload_n 1, 1) := by decide +kernel
theorem dX7_career_46 : decode cX7_career 46 = .ok (.iload_n 2, 1) := by decide +kernel
theorem dX7_career_47 : decode cX7_career 47 = .ok (.invokevirtual 310, 3) := by decide +kernel
theorem dX7_career_50 : decode cX7_career 50 = .ok (.ireturn, 1) := by decide +kernel
theorem dX7_toughest_0 : decode cX7_toughest 0 = .ok (.aload_n 0, 1) := by decide +kernel
theorem dX7_toughest_1 : decode cX7_toughest 1 = .ok (.getfield 10, 3) := by decide +kernel
theorem dX7_toughest_4 : decode cX7_toughest 4 = .ok (.iload_n 1, 1) := by decide +kernel
theorem dX7_toughest_5 : decode cX7_toughest 5 = .ok (.invokevirtual 164, 3) := by decide +kernel
theorem dX7_toughest_8 : decode cX7_toughest 8 = .ok (.ifCond .ne 9, 3) := by decide +kernel
theorem dX7_toughest_11 : decode cX7_toughest 11 = .ok (.aload_n 0, 1) := by decide +kernel
theorem dX7_toughest_12 : decode cX7_toughest 12 = .ok (.iconst (-1), 1) := by decide +kernel
theorem dX7_toughest_13 : decode cX7_toughest 13 = .ok (.invokevirtual 74, 3) := by decide +kernel
theorem dX7_toughest_16 : decode cX7_toughest 16 = .ok (.ireturn, 1) := by decide +kernel
theorem dX7_toughest_17 : decode cX7_toughest 17 = .ok (.aload_n 0, 1) := by decide +kernel
theorem dX7_toughest_18 : decode cX7_toughest 18 = .ok (.getfield 48, 3) := by decide +kernel
theorem dX7_toughest_21 : decode cX7_toughest 21 = .ok (.iload_n 1, 1) := by decide +kernel
theorem dX7_toughest_22 : decode cX7_toughest 22 = .ok (.invokevirtual 313, 3) := by decide +kernel
theorem dX7_toughest_25 : decode cX7_toughest 25 = .ok (.ireturn, 1) := by decide +kernel
theorem dX7_equal_0 : decode cX7_equal 0 = .ok (.aload_n 0, 1) := by decide +kernel
theorem dX7_equal_1 : decode cX7_equal 1 = .ok (.getfield 62, 3) := by decide +kernel
theorem dX7_equal_4 : decode cX7_equal 4 = .ok (.invokevirtual 316, 3) := by decide +kernel
theorem dX7_equal_7 : decode cX7_equal 7 = .ok (.ireturn, 1) := by decide +kernel
theorem dX7_longest_0 : decode cX7_longest 0 = .ok (.iload_n 1, 1) := by decide +kernel
theorem dX7_longest_1 : decode cX7_longest 1 = .ok (.invokestatic 214, 3) := by decide +kernel
theorem dX7_longest_4 : decode cX7_longest 4 = .ok (.ifCond .ne 10, 3) := by decide +kernel
theorem dX7_longest_7 : decode cX7_longest 7 = .ok (.aload_n 0, 1) := by decide +kernel
theorem dX7_longest_8 : decode cX7_longest 8 = .ok (.bipush (-2), 2) := by decide +kernel
theorem dX7_longest_10 : decode cX7_longest 10 = .ok (.invokevirtual 74, 3) := by decide +kernel
theorem dX7_longest_13 : decode cX7_longest 13 = .ok (.ireturn, 1) := by decide +kernel
theorem dX7_longest_14 : decode cX7_longest 14 = .ok (.aload_n 0, 1) := by decide +kernel
theorem dX7_longest_15 : decode cX7_longest 15 = .ok (.getfield 48, 3) := by decide +kernel
theorem dX7_longest_18 : decode cX7_longest 18 = .ok (.invokevirtual 319, 3) := by decide +kernel
theorem dX7_longest_21 : decode cX7_longest 21 = .ok (.istore_n 2, 1) := by decide +kernel
theorem dX7_longest_22 : decode cX7_longest 22 = .ok (.iload_n 1, 1) := by decide +kernel
theorem dX7_longest_23 : decode cX7_longest 23 = .ok (.ifCond .eq 7, 3) := by decide +kernel
theorem dX7_longest_26 : decode cX7_longest 26 = .ok (.iload_n 2, 1) := by decide +kernel
theorem dX7_longest_27 : decode cX7_longest 27 = .ok (.ifCond .ge 5, 3) := by decide +kernel
theorem dX7_longest_30 : decode cX7_longest 30 = .ok (.iload_n 2, 1) := by decide +kernel
theorem dX7_longest_31 : decode cX7_longest 31 = .ok (.ireturn, 1) := by decide +kernel
theorem dX7_longest_32 : decode cX7_longest 32 = .ok (.aload_n 0, 1) := by decide +kernel
theorem dX7_longest_33 : decode cX7_longest 33 = .ok (.getfield 10, 3) := by decide +kernel
theorem dX7_longest_36 : decode cX7_longest 36 = .ok (.aload_n 0, 1) := by decide +kernel
theorem dX7_longest_37 : decode cX7_longest 37 = .ok (.getfield 10, 3) := by decide +kernel
theorem dX7_longest_40 : decode cX7_longest 40 = .ok (.getfield 170, 3) := by decide +kernel
theorem dX7_longest_43 : decode cX7_longest 43 = .ok (.iload_n 2, 1) := by decide +kernel
theorem dX7_longest_44 : decode cX7_longest 44 = .ok (.invokestatic 100, 3) := by decide +kernel
theorem dX7_longest_47 : decode cX7_longest 47 = .ok (.invokevirtual 173, 3) := by decide +kernel
theorem dX7_longest_50 : decode cX7_longest 50 = .ok (.ireturn, 1) := by decide +kernel
theorem dX7_row_0 : decode cX7_row 0 = .ok (.iload_n 1, 1) := by decide +kernel
theorem dX7_row_1 : decode cX7_row 1 = .ok (.ifCond .ge 10, 3) := by decide +kernel
theorem dX7_row_4 : decode cX7_row 4 = .ok (.aload_n 0, 1) := by decide +kernel
theorem dX7_row_5 : decode cX7_row 5 = .ok (.bipush (-4), 2) := by decide +kernel
theorem dX7_row_7 : decode cX7_row 7 = .ok (.invokevirtual 74, 3) := by decide +kernel
theorem dX7_row_10 : decode cX7_row 10 = .ok (.ireturn, 1) := by decide +kernel
theorem dX7_row_11 : decode cX7_row 11 = .ok (.iload_n 1, 1) := by decide +kernel
theorem dX7_row_12 : decode cX7_row 12 = .ok (.bipush 99, 2) := by decide +kernel
theorem dX7_row_14 : decode cX7_row 14 = .ok (.if_icmp .gt 15, 3) := by decide +kernel
theorem dX7_row_17 : decode cX7_row 17 = .ok (.aload_n 0, 1) := by decide +kernel
theorem dX7_row_18 : decode cX7_row 18 = .ok (.getfield 41, 3) := by decide +kernel
theorem dX7_row_21 : decode cX7_row 21 = .ok (.getfield 322, 3) := by decide +kernel
theorem dX7_row_24 : decode cX7_row 24 = .ok (.bipush 12, 2) := by decide +kernel
theorem dX7_row_26 : decode cX7_row 26 = .ok (.if_icmp .lt 10, 3) := by decide +kernel
theorem dX7_row_29 : decode cX7_row 29 = .ok (.aload_n 0, 1) := by decide +kernel
theorem dX7_row_30 : decode cX7_row 30 = .ok (.bipush (-6), 2) := by decide +kernel
theorem dX7_row_32 : decode cX7_row 32 = .ok (.invokevirtual 74, 3) := by decide +kernel
theorem dX7_row_35 : decode cX7_row 35 = .ok (.ireturn, 1) := by decide +kernel
theorem dX7_row_36 : decode cX7_row 36 = .ok (.aload_n 0, 1) := by decide +kernel
theorem dX7_row_37 : decode cX7_row 37 = .ok (.getfield 41, 3) := by decide +kernel
theorem dX7_row_40 : decode cX7_row 40 = .ok (.iload_n 1, 1) := by decide +kernel
theorem dX7_row_41 : decode cX7_row 41 = .ok (.invokevirtual 323, 3) := by decide +kernel
theorem dX7_row_44 : decode cX7_row 44 = .ok (.ireturn, 1) := by decide +kernel
theorem dX7_judge_0 : decode cX7_judge 0 = .ok (.aload_n 0, 1) := by decide +kernel
theorem dX7_judge_1 : decode cX7_judge 1 = .ok (.getfield 10, 3) := by decide +kernel
theorem dX7_judge_4 : decode cX7_judge 4 = .ok (.iload_n 1, 1) := by decide +kernel
theorem dX7_judge_5 : decode cX7_judge 5 = .ok (.invokevirtual 120, 3) := by decide +kernel
theorem dX7_judge_8 : decode cX7_judge 8 = .ok (.ifCond .ne 9, 3) := by decide +kernel
theorem dX7_judge_11 : decode cX7_judge 11 = .ok (.aload_n 0, 1) := by decide +kernel
theorem dX7_judge_12 : decode cX7_judge 12 = .ok (.iconst (-1), 1) := by decide +kernel
theorem dX7_judge_13 : decode cX7_judge 13 = .ok (.invokevirtual 74, 3) := by decide +kernel
theorem dX7_judge_16 : decode cX7_judge 16 = .ok (.ireturn, 1) := by decide +kernel
theorem dX7_judge_17 : decode cX7_judge 17 = .ok (.aload_n 0, 1) := by decide +kernel
theorem dX7_judge_18 : decode cX7_judge 18 = .ok (.getfield 41, 3) := by decide +kernel
theorem dX7_judge_21 : decode cX7_judge 21 = .ok (.iload_n 1, 1) := by decide +kernel
theorem dX7_judge_22 : decode cX7_judge 22 = .ok (.invokevirtual 324, 3) := by decide +kernel
theorem dX7_judge_25 : decode cX7_judge 25 = .ok (.istore_n 2, 1) := by decide +kernel
theorem dX7_judge_26 : decode cX7_judge 26 = .ok (.aload_n 0, 1) := by decide +kernel
theorem dX7_judge_27 : decode cX7_judge 27 = .ok (.getfield 41, 3) := by decide +kernel
theorem dX7_judge_30 : decode cX7_judge 30 = .ok (.iconst 0, 1) := by decide +kernel
theorem dX7_judge_31 : decode cX7_judge 31 = .ok (.putfield 322, 3) := by decide +kernel
theorem dX7_judge_34 : decode cX7_judge 34 = .ok (.iload_n 2, 1) := by decide +kernel
theorem dX7_judge_35 : decode cX7_judge 35 = .ok (.ireturn, 1) := by decide +kernel
theorem dX7_clear_0 : decode cX7_clear 0 = .ok (.aload_n 0, 1) := by decide +kernel
theorem dX7_clear_1 : decode cX7_clear 1 = .ok (.getfield 41, 3) := by decide +kernel
theorem dX7_clear_4 : decode cX7_clear 4 = .ok (.getfield 322, 3) := by decide +kernel
theorem dX7_clear_7 : decode cX7_clear 7 = .ok (.istore_n 1, 1) := by decide +kernel
theorem dX7_clear_8 : decode cX7_clear 8 = .ok (.aload_n 0, 1) := by decide +kernel
theorem dX7_clear_9 : decode cX7_clear 9 = .ok (.getfield 41, 3) := by decide +kernel
theorem dX7_clear_12 : decode cX7_clear 12 = .ok (.iconst 0, 1) := by decide +kernel
theorem dX7_clear_13 : decode cX7_clear 13 = .ok (.putfield 322, 3) := by decide +kernel
theorem dX7_clear_16 : decode cX7_clear 16 = .ok (.iload_n 1, 1) := by decide +kernel
theorem dX7_clear_17 : decode cX7_clear 17 = .ok (.ireturn, 1) := by decide +kernel
theorem dX7_lots_0 : decode cX7_lots 0 = .ok (.iload_n 1, 1) := by decide +kernel
theorem dX7_lots_1 : decode cX7_lots 1 = .ok (.iconst 1, 1) := by decide +kernel
theorem dX7_lots_2 : decode cX7_lots 2 = .ok (.if_icmp .ge 10, 3) := by decide +kernel
theorem dX7_lots_5 : decode cX7_lots 5 = .ok (.aload_n 0, 1) := by decide +kernel
theorem dX7_lots_6 : decode cX7_lots 6 = .ok (.bipush (-4), 2) := by decide +kernel
theorem dX7_lots_8 : decode cX7_lots 8 = .ok (.invokevirtual 74, 3) := by decide +kernel
theorem dX7_lots_11 : decode cX7_lots 11 = .ok (.ireturn, 1) := by decide +kernel
theorem dX7_lots_12 : decode cX7_lots 12 = .ok (.iload_n 1, 1) := by decide +kernel
theorem dX7_lots_13 : decode cX7_lots 13 = .ok (.bipush 20, 2) := by decide +kernel
theorem dX7_lots_15 : decode cX7_lots 15 = .ok (.if_icmp .le 10, 3) := by decide +kernel
theorem dX7_lots_18 : decode cX7_lots 18 = .ok (.aload_n 0, 1) := by decide +kernel
theorem dX7_lots_19 : decode cX7_lots 19 = .ok (.bipush (-6), 2) := by decide +kernel
theorem dX7_lots_21 : decode cX7_lots 21 = .ok (.invokevirtual 74, 3) := by decide +kernel
theorem dX7_lots_24 : decode cX7_lots 24 = .ok (.ireturn, 1) := by decide +kernel
theorem dX7_lots_25 : decode cX7_lots 25 = .ok (.iload_n 3, 1) := by decide +kernel
theorem dX7_lots_26 : decode cX7_lots 26 = .ok (.invokestatic 214, 3) := by decide +kernel
theorem dX7_lots_29 : decode cX7_lots 29 = .ok (.ifCond .ne 10, 3) := by decide +kernel
theorem dX7_lots_32 : decode cX7_lots 32 = .ok (.aload_n 0, 1) := by decide +kernel
theorem dX7_lots_33 : decode cX7_lots 33 = .ok (.bipush (-2), 2) := by decide +kernel
theorem dX7_lots_35 : decode cX7_lots 35 = .ok (.invokevirtual 74, 3) := by decide +kernel
theorem dX7_lots_38 : decode cX7_lots 38 = .ok (.ireturn, 1) := by decide +kernel
theorem dX7_lots_39 : decode cX7_lots 39 = .ok (.aload_n 0, 1) := by decide +kernel
theorem dX7_lots_40 : decode cX7_lots 40 = .ok (.getfield 62, 3) := by decide +kernel
theorem dX7_lots_43 : decode cX7_lots 43 = .ok (.iload_n 1, 1) := by decide +kernel
theorem dX7_lots_44 : decode cX7_lots 44 = .ok (.iload_n 2, 1) := by decide +kernel
theorem dX7_lots_45 : decode cX7_lots 45 = .ok (.iload_n 3, 1) := by decide +kernel
theorem dX7_lots_46 : decode cX7_lots 46 = .ok (.invokevirtual 327, 3) := by decide +kernel
theorem dX7_lots_49 : decode cX7_lots 49 = .ok (.ireturn, 1) := by decide +kernel
theorem dX7_image_0 : decode cX7_image 0 = .ok (.aload_n 0, 1) := by decide +kernel
theorem dX7_image_1 : decode cX7_image 1 = .ok (.getfield 16, 3) := by decide +kernel
theorem dX7_image_4 : decode cX7_image 4 = .ok (.aload_n 0, 1) := by decide +kernel
theorem dX7_image_5 : decode cX7_image 5 = .ok (.getfield 10, 3) := by decide +kernel
theorem dX7_image_8 : decode cX7_image 8 = .ok (.invokevirtual 85, 3) := by decide +kernel
theorem dX7_image_11 : decode cX7_image 11 = .ok (.aload_n 0, 1) := by decide +kernel
theorem dX7_image_12 : decode cX7_image 12 = .ok (.iconst 1, 1) := by decide +kernel
theorem dX7_image_13 : decode cX7_image 13 = .ok (.putfield 70, 3) := by decide +kernel
theorem dX7_image_16 : decode cX7_image 16 = .ok (.aload_n 0, 1) := by decide +kernel
theorem dX7_image_17 : decode cX7_image 17 = .ok (.getfield 10, 3) := by decide +kernel
theorem dX7_image_20 : decode cX7_image 20 = .ok (.getfield 330, 3) := by decide +kernel
theorem dX7_image_23 : decode cX7_image 23 = .ok (.ireturn, 1) := by decide +kernel
theorem dX7_restore_0 : decode cX7_restore 0 = .ok (.aload_n 0, 1) := by decide +kernel
theorem dX7_restore_1 : decode cX7_restore 1 = .ok (.getfield 70, 3) := by decide +kernel
theorem dX7_restore_4 : decode cX7_restore 4 = .ok (.ifCond .ne 10, 3) := by decide +kernel
theorem dX7_restore_7 : decode cX7_restore 7 = .ok (.aload_n 0, 1) := by decide +kernel
theorem dX7_restore_8 : decode cX7_restore 8 = .ok (.bipush (-3), 2) := by decide +kernel
theorem dX7_restore_10 : decode cX7_restore 10 = .ok (.invokevirtual 74, 3) := by decide +kernel
theorem dX7_restore_13 : decode cX7_restore 13 = .ok (.ireturn, 1) := by decide +kernel
theorem dX7_restore_14 : decode cX7_restore 14 = .ok (.aload_n 0, 1) := by decide +kernel
theorem dX7_restore_15 : decode cX7_restore 15 = .ok (.getfield 10, 3) := by decide +kernel
theorem dX7_restore_18 : decode cX7_restore 18 = .ok (.aload_n 0, 1) := by decide +kernel
theorem dX7_restore_19 : decode cX7_restore 19 = .ok (.getfield 16, 3) := by decide +kernel
theorem dX7_restore_22 : decode cX7_restore 22 = .ok (.invokevirtual 85, 3) := by decide +kernel
theorem dX7_restore_25 : decode cX7_restore 25 = .ok (.aload_n 0, 1) := by decide +kernel
theorem dX7_restore_26 : decode cX7_restore 26 = .ok (.getfield 25, 3) := by decide +kernel
theorem dX7_restore_29 : decode cX7_restore 29 = .ok (.iconst 0, 1) := by decide +kernel
theorem dX7_restore_30 : decode cX7_restore 30 = .ok (.putfield 92, 3) := by decide +kernel
theorem dX7_restore_33 : decode cX7_restore 33 = .ok (.aload_n 0, 1) := by decide +kernel
theorem dX7_restore_34 : decode cX7_restore 34 = .ok (.getfield 10, 3) := by decide +kernel
theorem dX7_restore_37 : decode cX7_restore 37 = .ok (.getfield 330, 3) := by decide +kernel
theorem dX7_restore_40 : decode cX7_restore 40 = .ok (.ireturn, 1) := by decide +kernel
theorem dX7_count_0 : decode cX7_count 0 = .ok (.iload_n 1, 1) := by decide +kernel
theorem dX7_count_1 : decode cX7_count 1 = .ok (.bipush 11, 2) := by decide +kernel
theorem dX7_count_3 : decode cX7_count 3 = .ok (.if_icmp .lt 21, 3) := by decide +kernel
theorem dX7_count_6 : decode cX7_count 6 = .ok (.iload_n 1, 1) := by decide +kernel
theorem dX7_count_7 : decode cX7_count 7 = .ok (.bipush 16, 2) := by decide +kernel
theorem dX7_count_9 : decode cX7_count 9 = .ok (.if_icmp .gt 15, 3) := by decide +kernel
theorem dX7_count_12 : decode cX7_count 12 = .ok (.aload_n 0, 1) := by decide +kernel
theorem dX7_count_13 : decode cX7_count 13 = .ok (.getfield 66, 3) := by decide +kernel
theorem dX7_count_16 : decode cX7_count 16 = .ok (.iload_n 1, 1) := by decide +kernel
theorem dX7_count_17 : decode cX7_count 17 = .ok (.bipush 10, 2) := by decide +kernel
theorem dX7_count_19 : decode cX7_count 19 = .ok (.isub, 1) := by decide +kernel
theorem dX7_count_20 : decode cX7_count 20 = .ok (.invokestatic 100, 3) := by decide +kernel
theorem dX7_count_23 : decode cX7_count 23 = .ok (.ireturn, 1) := by decide +kernel
theorem dX7_count_24 : decode cX7_count 24 = .ok (.iload_n 1, 1) := by decide +kernel
theorem dX7_count_25 : decode cX7_count 25 = .ok (.tableswitch 135 0 9 #[55, 63, 71, 79, 87, 95, 103, 111, 119, 127], 55) := by decide +kernel
theorem dX7_count_80 : decode cX7_count 80 = .ok (.aload_n 0, 1) := by decide +kernel
theorem dX7_count_81 : decode cX7_count 81 = .ok (.getfield 10, 3) := by decide +kernel
theorem dX7_count_84 : decode cX7_count 84 = .ok (.getfield 333, 3) := by decide +kernel
theorem dX7_count_87 : decode cX7_count 87 = .ok (.ireturn, 1) := by decide +kernel
theorem dX7_count_88 : decode cX7_count 88 = .ok (.aload_n 0, 1) := by decide +kernel
theorem dX7_count_89 : decode cX7_count 89 = .ok (.getfield 10, 3) := by decide +kernel
theorem dX7_count_92 : decode cX7_count 92 = .ok (.getfield 222, 3) := by decide +kernel
theorem dX7_count_95 : decode cX7_count 95 = .ok (.ireturn, 1) := by decide +kernel
theorem dX7_count_96 : decode cX7_count 96 = .ok (.aload_n 0, 1) := by decide +kernel
theorem dX7_count_97 : decode cX7_count 97 = .ok (.getfield 10, 3) := by decide +kernel
theorem dX7_count_100 : decode cX7_count 100 = .ok (.getfield 336, 3) := by decide +kernel
theorem dX7_count_103 : decode cX7_count 103 = .ok (.ireturn, 1) := by decide +kernel
theorem dX7_count_104 : decode cX7_count 104 = .ok (.aload_n 0, 1) := by decide +kernel
theorem dX7_count_105 : decode cX7_count 105 = .ok (.getfield 10, 3) := by decide +kernel
theorem dX7_count_108 : decode cX7_count 108 = .ok (.getfield 110, 3) := by decide +kernel
theorem dX7_count_111 : decode cX7_count 111 = .ok (.ireturn, 1) := by decide +kernel
theorem dX7_count_112 : decode cX7_count 112 = .ok (.aload_n 0, 1) := by decide +kernel
theorem dX7_count_113 : decode cX7_count 113 = .ok (.getfield 10, 3) := by decide +kernel
theorem dX7_count_116 : decode cX7_count 116 = .ok (.getfield 339, 3) := by decide +kernel
theorem dX7_count_119 : decode cX7_count 119 = .ok (.ireturn, 1) := by decide +kernel
theorem dX7_count_120 : decode cX7_count 120 = .ok (.aload_n 0, 1) := by decide +kernel
theorem dX7_count_121 : decode cX7_count 121 = .ok (.getfield 10, 3) := by decide +kernel
theorem dX7_count_124 : decode cX7_count 124 = .ok (.getfield 330, 3) := by decide +kernel
theorem dX7_count_127 : decode cX7_count 127 = .ok (.ireturn, 1) := by decide +kernel
theorem dX7_count_128 : decode cX7_count 128 = .ok (.aload_n 0, 1) := by decide +kernel
theorem dX7_count_129 : decode cX7_count 129 = .ok (.getfield 62, 3) := by decide +kernel
theorem dX7_count_132 : decode cX7_count 132 = .ok (.invokevirtual 342, 3) := by decide +kernel
theorem dX7_count_135 : decode cX7_count 135 = .ok (.ireturn, 1) := by decide +kernel
theorem dX7_count_136 : decode cX7_count 136 = .ok (.aload_n 0, 1) := by decide +kernel
theorem dX7_count_137 : decode cX7_count 137 = .ok (.getfield 32, 3) := by decide +kernel
theorem dX7_count_140 : decode cX7_count 140 = .ok (.getfield 78, 3) := by decide +kernel
theorem dX7_count_143 : decode cX7_count 143 = .ok (.ireturn, 1) := by decide +kernel
theorem dX7_count_144 : decode cX7_count 144 = .ok (.aload_n 0, 1) := by decide +kernel
theorem dX7_count_145 : decode cX7_count 145 = .ok (.getfield 41, 3) := by decide +kernel
theorem dX7_count_148 : decode cX7_count 148 = .ok (.getfield 322, 3) := by decide +kernel
theorem dX7_count_151 : decode cX7_count 151 = .ok (.ireturn, 1) := by decide +kernel
theorem dX7_count_152 : decode cX7_count 152 = .ok (.aload_n 0, 1) := by decide +kernel
theorem dX7_count_153 : decode cX7_count 153 = .ok (.getfield 25, 3) := by decide +kernel
theorem dX7_count_156 : decode cX7_count 156 = .ok (.getfield 92, 3) := by decide +kernel
theorem dX7_count_159 : decode cX7_count 159 = .ok (.ireturn, 1) := by decide +kernel
theorem dX7_count_160 : decode cX7_count 160 = .ok (.bipush (-9), 2) := by decide +kernel
theorem dX7_count_162 : decode cX7_count 162 = .ok (.ireturn, 1) := by decide +kernel
theorem dX7_refuse_0 : decode cX7_refuse 0 = .ok (.aload_n 0, 1) := by decide +kernel
theorem dX7_refuse_1 : decode cX7_refuse 1 = .ok (.getfield 66, 3) := by decide +kernel
theorem dX7_refuse_4 : decode cX7_refuse 4 = .ok (.iload_n 1, 1) := by decide +kernel
theorem dX7_refuse_5 : decode cX7_refuse 5 = .ok (.ineg, 1) := by decide +kernel
theorem dX7_refuse_6 : decode cX7_refuse 6 = .ok (.aload_n 0, 1) := by decide +kernel
theorem dX7_refuse_7 : decode cX7_refuse 7 = .ok (.getfield 66, 3) := by decide +kernel
theorem dX7_refuse_10 : decode cX7_refuse 10 = .ok (.iload_n 1, 1) := by decide +kernel
theorem dX7_refuse_11 : decode cX7_refuse 11 = .ok (.ineg, 1) := by decide +kernel
theorem dX7_refuse_12 : decode cX7_refuse 12 = .ok (.invokestatic 100, 3) := by decide +kernel
theorem dX7_refuse_15 : decode cX7_refuse 15 = .ok (.iconst 1, 1) := by decide +kernel
theorem dX7_refuse_16 : decode cX7_refuse 16 = .ok (.iadd, 1) := by decide +kernel
theorem dX7_refuse_17 : decode cX7_refuse 17 = .ok (.invokestatic 345, 3) := by decide +kernel
theorem dX7_refuse_20 : decode cX7_refuse 20 = .ok (.iload_n 1, 1) := by decide +kernel
theorem dX7_refuse_21 : decode cX7_refuse 21 = .ok (.ireturn, 1) := by decide +kernel
theorem dX7_refuseLong_0 : decode cX7_refuseLong 0 = .ok (.ldc2_w 349, 3) := by decide +kernel
theorem dX7_refuseLong_3 : decode cX7_refuseLong 3 = .ok (.aload_n 0, 1) := by decide +kernel
theorem dX7_refuseLong_4 : decode cX7_refuseLong 4 = .ok (.iload_n 1, 1) := by decide +kernel
theorem dX7_refuseLong_5 : decode cX7_refuseLong 5 = .ok (.invokevirtual 74, 3) := by decide +kernel
theorem dX7_refuseLong_8 : decode cX7_refuseLong 8 = .ok (.i2l, 1) := by decide +kernel
theorem dX7_refuseLong_9 : decode cX7_refuseLong 9 = .ok (.lsub, 1) := by decide +kernel
theorem dX7_refuseLong_10 : decode cX7_refuseLong 10 = .ok (.lreturn, 1) := by decide +kernel
theorem dX7_grown_0 : decode cX7_grown 0 = .ok (.iload_n 1, 1) := by decide +kernel
theorem dX7_grown_1 : decode cX7_grown 1 = .ok (.ifCond .ge 9, 3) := by decide +kernel
theorem dX7_grown_4 : decode cX7_grown 4 = .ok (.aload_n 0, 1) := by decide +kernel
theorem dX7_grown_5 : decode cX7_grown 5 = .ok (.iload_n 1, 1) := by decide +kernel
theorem dX7_grown_6 : decode cX7_grown 6 = .ok (.invokevirtual 74, 3) := by decide +kernel
theorem dX7_grown_9 : decode cX7_grown 9 = .ok (.ireturn, 1) := by decide +kernel
theorem dX7_grown_10 : decode cX7_grown 10 = .ok (.aload_n 0, 1) := by decide +kernel
theorem dX7_grown_11 : decode cX7_grown 11 = .ok (.getfield 25, 3) := by decide +kernel
theorem dX7_grown_14 : decode cX7_grown 14 = .ok (.iconst 0, 1) := by decide +kernel
theorem dX7_grown_15 : decode cX7_grown 15 = .ok (.putfield 92, 3) := by decide +kernel
theorem dX7_grown_18 : decode cX7_grown 18 = .ok (.iload_n 1, 1) := by decide +kernel
theorem dX7_grown_19 : decode cX7_grown 19 = .ok (.ireturn, 1) := by decide +kernel
theorem dX7_changed_0 : decode cX7_changed 0 = .ok (.iload_n 1, 1) := by decide +kernel
theorem dX7_changed_1 : decode cX7_changed 1 = .ok (.ifCond .ge 9, 3) := by decide +kernel
theorem dX7_changed_4 : decode cX7_changed 4 = .ok (.aload_n 0, 1) := by decide +kernel
theorem dX7_changed_5 : decode cX7_changed 5 = .ok (.iload_n 1, 1) := by decide +kernel
theorem dX7_changed_6 : decode cX7_changed 6 = .ok (.invokevirtual 74, 3) := by decide +kernel
theorem dX7_changed_9 : decode cX7_changed 9 = .ok (.ireturn, 1) := by decide +kernel
theorem dX7_changed_10 : decode cX7_changed 10 = .ok (.aload_n 0, 1) := by decide +kernel
theorem dX7_changed_11 : decode cX7_changed 11 = .ok (.getfield 25, 3) := by decide +kernel
theorem dX7_changed_14 : decode cX7_changed 14 = .ok (.invokevirtual 351, 3) := by decide +kernel
theorem dX7_changed_17 : decode cX7_changed 17 = .ok (.iload_n 1, 1) := by decide +kernel
theorem dX7_changed_18 : decode cX7_changed 18 = .ok (.ireturn, 1) := by decide +kernel
theorem dX7_at_0 : decode cX7_at 0 = .ok (.aload_n 0, 1) := by decide +kernel
theorem dX7_at_1 : decode cX7_at 1 = .ok (.ifnull 19, 3) := by decide +kernel
theorem dX7_at_4 : decode cX7_at 4 = .ok (.iload_n 1, 1) := by decide +kernel
theorem dX7_at_5 : decode cX7_at 5 = .ok (.ifCond .lt 15, 3) := by decide +kernel
theorem dX7_at_8 : decode cX7_at 8 = .ok (.iload_n 1, 1) := by decide +kernel
theorem dX7_at_9 : decode cX7_at 9 = .ok (.aload_n 0, 1) := by decide +kernel
theorem dX7_at_10 : decode cX7_at 10 = .ok (.arraylength, 1) := by decide +kernel
theorem dX7_at_11 : decode cX7_at 11 = .ok (.if_icmp .ge 9, 3) := by decide +kernel
theorem dX7_at_14 : decode cX7_at 14 = .ok (.aload_n 0, 1) := by decide +kernel
theorem dX7_at_15 : decode cX7_at 15 = .ok (.iload_n 1, 1) := by decide +kernel
theorem dX7_at_16 : decode cX7_at 16 = .ok (.iaload, 1) := by decide +kernel
theorem dX7_at_17 : decode cX7_at 17 = .ok (.goto 4, 3) := by decide +kernel
theorem dX7_at_20 : decode cX7_at 20 = .ok (.iconst 0, 1) := by decide +kernel
theorem dX7_at_21 : decode cX7_at 21 = .ok (.ireturn, 1) := by decide +kernel
theorem dX7_store_0 : decode cX7_store 0 = .ok (.aload_n 0, 1) := by decide +kernel
theorem dX7_store_1 : decode cX7_store 1 = .ok (.ifnull 17, 3) := by decide +kernel
theorem dX7_store_4 : decode cX7_store 4 = .ok (.iload_n 1, 1) := by decide +kernel
theorem dX7_store_5 : decode cX7_store 5 = .ok (.ifCond .lt 13, 3) := by decide +kernel
theorem dX7_store_8 : decode cX7_store 8 = .ok (.iload_n 1, 1) := by decide +kernel
theorem dX7_store_9 : decode cX7_store 9 = .ok (.aload_n 0, 1) := by decide +kernel
theorem dX7_store_10 : decode cX7_store 10 = .ok (.arraylength, 1) := by decide +kernel
theorem dX7_store_11 : decode cX7_store 11 = .ok (.if_icmp .ge 7, 3) := by decide +kernel
theorem dX7_store_14 : decode cX7_store 14 = .ok (.aload_n 0, 1) := by decide +kernel
theorem dX7_store_15 : decode cX7_store 15 = .ok (.iload_n 1, 1) := by decide +kernel
theorem dX7_store_16 : decode cX7_store 16 = .ok (.iload_n 2, 1) := by decide +kernel
theorem dX7_store_17 : decode cX7_store 17 = .ok (.iastore, 1) := by decide +kernel
theorem dX7_store_18 : decode cX7_store 18 = .ok (.return_, 1) := by decide +kernel
theorem dX7_copyRow_0 : decode cX7_copyRow 0 = .ok (.iconst 0, 1) := by decide +kernel
theorem dX7_copyRow_1 : decode cX7_copyRow 1 = .ok (.istore_n 3, 1) := by decide +kernel
theorem dX7_copyRow_2 : decode cX7_copyRow 2 = .ok (.iload_n 3, 1) := by decide +kernel
theorem dX7_copyRow_3 : decode cX7_copyRow 3 = .ok (.iload_n 2, 1) := by decide +kernel
theorem dX7_copyRow_4 : decode cX7_copyRow 4 = .ok (.if_icmp .ge 19, 3) := by decide +kernel
theorem dX7_copyRow_7 : decode cX7_copyRow 7 = .ok (.aload_n 1, 1) := by decide +kernel
theorem dX7_copyRow_8 : decode cX7_copyRow 8 = .ok (.iload_n 3, 1) := by decide +kernel
theorem dX7_copyRow_9 : decode cX7_copyRow 9 = .ok (.aload_n 0, 1) := by decide +kernel
theorem dX7_copyRow_10 : decode cX7_copyRow 10 = .ok (.iload_n 3, 1) := by decide +kernel
theorem dX7_copyRow_11 : decode cX7_copyRow 11 = .ok (.invokestatic 100, 3) := by decide +kernel
theorem dX7_copyRow_14 : decode cX7_copyRow 14 = .ok (.invokestatic 345, 3) := by decide +kernel
theorem dX7_copyRow_17 : decode cX7_copyRow 17 = .ok (.iinc 3 1, 3) := by decide +kernel
theorem dX7_copyRow_20 : decode cX7_copyRow 20 = .ok (.goto (-18), 3) := by decide +kernel
theorem dX7_copyRow_23 : decode cX7_copyRow 23 = .ok (.return_, 1) := by decide +kernel
theorem dX7_has_0 : decode cX7_has 0 = .ok (.iload_n 0, 1) := by decide +kernel
theorem dX7_has_1 : decode cX7_has 1 = .ok (.iload_n 1, 1) := by decide +kernel
theorem dX7_has_2 : decode cX7_has 2 = .ok (.ishr, 1) := by decide +kernel
theorem dX7_has_3 : decode cX7_has 3 = .ok (.iconst 1, 1) := by decide +kernel
theorem dX7_has_4 : decode cX7_has 4 = .ok (.iand, 1) := by decide +kernel
theorem dX7_has_5 : decode cX7_has 5 = .ok (.iconst 1, 1) := by decide +kernel
theorem dX7_has_6 : decode cX7_has 6 = .ok (.if_icmp .ne 7, 3) := by decide +kernel
theorem dX7_has_9 : decode cX7_has 9 = .ok (.iconst 1, 1) := by decide +kernel
theorem dX7_has_10 : decode cX7_has 10 = .ok (.goto 4, 3) := by decide +kernel
theorem dX7_has_13 : decode cX7_has 13 = .ok (.iconst 0, 1) := by decide +kernel
theorem dX7_has_14 : decode cX7_has 14 = .ok (.ireturn, 1) := by decide +kernel
theorem dX7_isHour_0 : decode cX7_isHour 0 = .ok (.iload_n 0, 1) := by decide +kernel
theorem dX7_isHour_1 : decode cX7_isHour 1 = .ok (.ifCond .lt 13, 3) := by decide +kernel
theorem dX7_isHour_4 : decode cX7_isHour 4 = .ok (.iload_n 0, 1) := by decide +kernel
theorem dX7_isHour_5 : decode cX7_isHour 5 = .ok (.bipush 24, 2) := by decide +kernel
theorem dX7_isHour_7 : decode cX7_isHour 7 = .ok (.if_icmp .ge 7, 3) := by decide +kernel
theorem dX7_isHour_10 : decode cX7_isHour 10 = .ok (.iconst 1, 1) := by decide +kernel
theorem dX7_isHour_11 : decode cX7_isHour 11 = .ok (.goto 4, 3) := by decide +kernel
theorem dX7_isHour_14 : decode cX7_isHour 14 = .ok (.iconst 0, 1) := by decide +kernel
theorem dX7_isHour_15 : decode cX7_isHour 15 = .ok (.ireturn, 1) := by decide +kernel
theorem dX7_isEither_0 : decode cX7_isEither 0 = .ok (.iload_n 0, 1) := by decide +kernel
theorem dX7_isEither_1 : decode cX7_isEither 1 = .ok (.ifCond .eq 8, 3) := by decide +kernel
theorem dX7_isEither_4 : decode cX7_isEither 4 = .ok (.iload_n 0, 1) := by decide +kernel
theorem dX7_isEither_5 : decode cX7_isEither 5 = .ok (.iconst 1, 1) := by decide +kernel
theorem dX7_isEither_6 : decode cX7_isEither 6 = .ok (.if_icmp .ne 7, 3) := by decide +kernel
theorem dX7_isEither_9 : decode cX7_isEither 9 = .ok (.iconst 1, 1) := by decide +kernel
theorem dX7_isEither_10 : decode cX7_isEither 10 = .ok (.goto 4, 3) := by decide +kernel
theorem dX7_isEither_13 : decode cX7_isEither 13 = .ok (.iconst 0, 1) := by decide +kernel
theorem dX7_isEither_14 : decode cX7_isEither 14 = .ok (.ireturn, 1) := by decide +kernel
theorem dX7_remainder_0 : decode cX7_remainder 0 = .ok (.iload_n 1, 1) := by decide +kernel
theorem dX7_remainder_1 : decode cX7_remainder 1 = .ok (.iconst 1, 1) := by decide +kernel
theorem dX7_remainder_2 : decode cX7_remainder 2 = .ok (.if_icmp .ge 7, 3) := by decide +kernel
theorem dX7_remainder_5 : decode cX7_remainder 5 = .ok (.iconst 0, 1) := by decide +kernel
theorem dX7_remainder_6 : decode cX7_remainder 6 = .ok (.goto 6, 3) := by decide +kernel
theorem dX7_remainder_9 : decode cX7_remainder 9 = .ok (.iload_n 0, 1) := by decide +kernel
theorem dX7_remainder_10 : decode cX7_remainder 10 = .ok (.iload_n 1, 1) := by decide +kernel
theorem dX7_remainder_11 : decode cX7_remainder 11 = .ok (.irem, 1) := by decide +kernel
theorem dX7_remainder_12 : decode cX7_remainder 12 = .ok (.ireturn, 1) := by decide +kernel
theorem dX7_power_0 : decode cX7_power 0 = .ok (.lconst 1, 1) := by decide +kernel
theorem dX7_power_1 : decode cX7_power 1 = .ok (.lstore_n 2, 1) := by decide +kernel
theorem dX7_power_2 : decode cX7_power 2 = .ok (.iconst 0, 1) := by decide +kernel
theorem dX7_power_3 : decode cX7_power 3 = .ok (.istore 4, 2) := by decide +kernel
theorem dX7_power_5 : decode cX7_power 5 = .ok (.iload 4, 2) := by decide +kernel
theorem dX7_power_7 : decode cX7_power 7 = .ok (.iload_n 1, 1) := by decide +kernel
theorem dX7_power_8 : decode cX7_power 8 = .ok (.if_icmp .ge 14, 3) := by decide +kernel
theorem dX7_power_11 : decode cX7_power 11 = .ok (.lload_n 2, 1) := by decide +kernel
theorem dX7_power_12 : decode cX7_power 12 = .ok (.iload_n 0, 1) := by decide +kernel
theorem dX7_power_13 : decode cX7_power 13 = .ok (.i2l, 1) := by decide +kernel
theorem dX7_power_14 : decode cX7_power 14 = .ok (.lmul, 1) := by decide +kernel
theorem dX7_power_15 : decode cX7_power 15 = .ok (.lstore_n 2, 1) := by decide +kernel
theorem dX7_power_16 : decode cX7_power 16 = .ok (.iinc 4 1, 3) := by decide +kernel
theorem dX7_power_19 : decode cX7_power 19 = .ok (.goto (-14), 3) := by decide +kernel
theorem dX7_power_22 : decode cX7_power 22 = .ok (.lload_n 2, 1) := by decide +kernel
theorem dX7_power_23 : decode cX7_power 23 = .ok (.lreturn, 1) := by decide +kernel
theorem dX7_partOf_0 : decode cX7_partOf 0 = .ok (.lload_n 0, 1) := by decide +kernel
theorem dX7_partOf_1 : decode cX7_partOf 1 = .ok (.lload_n 2, 1) := by decide +kernel
theorem dX7_partOf_2 : decode cX7_partOf 2 = .ok (.invokestatic 354, 3) := by decide +kernel
theorem dX7_partOf_5 : decode cX7_partOf 5 = .ok (.lstore 5, 2) := by decide +kernel
theorem dX7_partOf_7 : decode cX7_partOf 7 = .ok (.lload 5, 2) := by decide +kernel
theorem dX7_partOf_9 : decode cX7_partOf 9 = .ok (.lconst 1, 1) := by decide +kernel
theorem dX7_partOf_10 : decode cX7_partOf 10 = .ok (.lcmp, 1) := by decide +kernel
theorem dX7_partOf_11 : decode cX7_partOf 11 = .ok (.ifCond .ge 14, 3) := by decide +kernel
theorem dX7_partOf_14 : decode cX7_partOf 14 = .ok (.iload 4, 2) := by decide +kernel
theorem dX7_partOf_16 : decode cX7_partOf 16 = .ok (.ifCond .ne 7, 3) := by decide +kernel
theorem dX7_partOf_19 : decode cX7_partOf 19 = .ok (.lconst 0, 1) := by decide +kernel
theorem dX7_partOf_20 : decode cX7_partOf 20 = .ok (.goto 4, 3) := by decide +kernel
theorem dX7_partOf_23 : decode cX7_partOf 23 = .ok (.lconst 1, 1) := by decide +kernel
theorem dX7_partOf_24 : decode cX7_partOf 24 = .ok (.lreturn, 1) := by decide +kernel
theorem dX7_partOf_25 : decode cX7_partOf 25 = .ok (.iload 4, 2) := by decide +kernel
theorem dX7_partOf_27 : decode cX7_partOf 27 = .ok (.ifCond .ne 7, 3) := by decide +kernel
theorem dX7_partOf_30 : decode cX7_partOf 30 = .ok (.lload_n 0, 1) := by decide +kernel
theorem dX7_partOf_31 : decode cX7_partOf 31 = .ok (.goto 4, 3) := by decide +kernel
theorem dX7_partOf_34 : decode cX7_partOf 34 = .ok (.lload_n 2, 1) := by decide +kernel
theorem dX7_partOf_35 : decode cX7_partOf 35 = .ok (.lload 5, 2) := by decide +kernel
theorem dX7_partOf_37 : decode cX7_partOf 37 = .ok (.ldiv, 1) := by decide +kernel
theorem dX7_partOf_38 : decode cX7_partOf 38 = .ok (.lreturn, 1) := by decide +kernel
theorem dX7_greatestDivisor_0 : decode cX7_greatestDivisor 0 = .ok (.lload_n 0, 1) := by decide +kernel
theorem dX7_greatestDivisor_1 : decode cX7_greatestDivisor 1 = .ok (.lstore 4, 2) := by decide +kernel
theorem dX7_greatestDivisor_3 : decode cX7_greatestDivisor 3 = .ok (.lload_n 2, 1) := by decide +kernel
theorem dX7_greatestDivisor_4 : decode cX7_greatestDivisor 4 = .ok (.lstore 6, 2) := by decide +kernel
theorem dX7_greatestDivisor_6 : decode cX7_greatestDivisor 6 = .ok (.iconst 0, 1) := by decide +kernel
theorem dX7_greatestDivisor_7 : decode cX7_greatestDivisor 7 = .ok (.istore 8, 2) := by decide +kernel
theorem dX7_greatestDivisor_9 : decode cX7_greatestDivisor 9 = .ok (.iload 8, 2) := by decide +kernel
theorem dX7_greatestDivisor_11 : decode cX7_greatestDivisor 11 = .ok (.sipush 200, 3) := by decide +kernel
theorem dX7_greatestDivisor_14 : decode cX7_greatestDivisor 14 = .ok (.if_icmp .ge 31, 3) := by decide +kernel
theorem dX7_greatestDivisor_17 : decode cX7_greatestDivisor 17 = .ok (.lload 6, 2) := by decide +kernel
theorem dX7_greatestDivisor_19 : decode cX7_greatestDivisor 19 = .ok (.lconst 0, 1) := by decide +kernel
theorem dX7_greatestDivisor_20 : decode cX7_greatestDivisor 20 = .ok (.lcmp, 1) := by decide +kernel
theorem dX7_greatestDivisor_21 : decode cX7_greatestDivisor 21 = .ok (.ifCond .eq 24, 3) := by decide +kernel
theorem dX7_greatestDivisor_24 : decode cX7_greatestDivisor 24 = .ok (.lload 4, 2) := by decide +kernel
theorem dX7_greatestDivisor_26 : decode cX7_greatestDivisor 26 = .ok (.lload 6, 2) := by decide +kernel
theorem dX7_greatestDivisor_28 : decode cX7_greatestDivisor 28 = .ok (.lrem, 1) := by decide +kernel
theorem dX7_greatestDivisor_29 : decode cX7_greatestDivisor 29 = .ok (.lstore 9, 2) := by decide +kernel
theorem dX7_greatestDivisor_31 : decode cX7_greatestDivisor 31 = .ok (.lload 6, 2) := by decide +kernel
theorem dX7_greatestDivisor_33 : decode cX7_greatestDivisor 33 = .ok (.lstore 4, 2) := by decide +kernel
theorem dX7_greatestDivisor_35 : decode cX7_greatestDivisor 35 = .ok (.lload 9, 2) := by decide +kernel
theorem dX7_greatestDivisor_37 : decode cX7_greatestDivisor 37 = .ok (.lstore 6, 2) := by decide +kernel
theorem dX7_greatestDivisor_39 : decode cX7_greatestDivisor 39 = .ok (.iinc 8 1, 3) := by decide +kernel
theorem dX7_greatestDivisor_42 : decode cX7_greatestDivisor 42 = .ok (.goto (-33), 3) := by decide +kernel
theorem dX7_greatestDivisor_45 : decode cX7_greatestDivisor 45 = .ok (.lload 4, 2) := by decide +kernel
theorem dX7_greatestDivisor_47 : decode cX7_greatestDivisor 47 = .ok (.lreturn, 1) := by decide +kernel
theorem dX8_init_0 : decode cX8_init 0 = .ok (.aload_n 0, 1) := by decide +kernel
theorem dX8_init_1 : decode cX8_init 1 = .ok (.invokespecial 1, 3) := by decide +kernel
theorem dX8_init_4 : decode cX8_init 4 = .ok (.aload_n 0, 1) := by decide +kernel
theorem dX8_init_5 : decode cX8_init 5 = .ok (.bipush 7, 2) := by decide +kernel
theorem dX8_init_7 : decode cX8_init 7 = .ok (.newarray .int, 2) := by decide +kernel
theorem dX8_init_9 : decode cX8_init 9 = .ok (.putfield 7, 3) := by decide +kernel
theorem dX8_init_12 : decode cX8_init 12 = .ok (.aload_n 0, 1) := by decide +kernel
theorem dX8_init_13 : decode cX8_init 13 = .ok (.bipush 8, 2) := by decide +kernel
theorem dX8_init_15 : decode cX8_init 15 = .ok (.newarray .int, 2) := by decide +kernel
theorem dX8_init_17 : decode cX8_init 17 = .ok (.putfield 13, 3) := by decide +kernel
theorem dX8_init_20 : decode cX8_init 20 = .ok (.aload_n 0, 1) := by decide +kernel
theorem dX8_init_21 : decode cX8_init 21 = .ok (.bipush 8, 2) := by decide +kernel
theorem dX8_init_23 : decode cX8_init 23 = .ok (.newarray .int, 2) := by decide +kernel
theorem dX8_init_25 : decode cX8_init 25 = .ok (.putfield 16, 3) := by decide +kernel
theorem dX8_init_28 : decode cX8_init 28 = .ok (.aload_n 0, 1) := by decide +kernel
theorem dX8_init_29 : decode cX8_init 29 = .ok (.bipush 8, 2) := by decide +kernel
theorem dX8_init_31 : decode cX8_init 31 = .ok (.newarray .int, 2) := by decide +kernel
theorem dX8_init_33 : decode cX8_init 33 = .ok (.putfield 19, 3) := by decide +kernel
theorem dX8_init_36 : decode cX8_init 36 = .ok (.aload_n 0, 1) := by decide +kernel
theorem dX8_init_37 : decode cX8_init 37 = .ok (.bipush 6, 2) := by decide +kernel
theorem dX8_init_39 : decode cX8_init 39 = .ok (.newarray .int, 2) := by decide +kernel
theorem dX8_init_41 : decode cX8_init 41 = .ok (.putfield 22, 3) := by decide +kernel
theorem dX8_init_44 : decode cX8_init 44 = .ok (.aload_n 0, 1) := by decide +kernel
theorem dX8_init_45 : decode cX8_init 45 = .ok (.iconst 5, 1) := by decide +kernel
theorem dX8_init_46 : decode cX8_init 46 = .ok (.newarray .int, 2) := by decide +kernel
theorem dX8_init_48 : decode cX8_init 48 = .ok (.putfield 25, 3) := by decide +kernel
theorem dX8_init_51 : decode cX8_init 51 = .ok (.aload_n 0, 1) := by decide +kernel
theorem dX8_init_52 : decode cX8_init 52 = .ok (.iconst 5, 1) := by decide +kernel
theorem dX8_init_53 : decode cX8_init 53 = .ok (.newarray .int, 2) := by decide +kernel
theorem dX8_init_55 : decode cX8_init 55 = .ok (.putfield 28, 3) := by decide +kernel
theorem dX8_init_58 : decode cX8_init 58 = .ok (.aload_n 0, 1) := by decide +kernel
theorem dX8_init_59 : decode cX8_init 59 = .ok (.bipush 96, 2) := by decide +kernel
theorem dX8_init_61 : decode cX8_init 61 = .ok (.newarray .int, 2) := by decide +kernel
theorem dX8_init_63 : decode cX8_init 63 = .ok (.putfield 31, 3) := by decide +kernel
theorem dX8_init_66 : decode cX8_init 66 = .ok (.aload_n 0, 1) := by decide +kernel
theorem dX8_init_67 : decode cX8_init 67 = .ok (.bipush 48, 2) := by decide +kernel
theorem dX8_init_69 : decode cX8_init 69 = .ok (.newarray .int, 2) := by decide +kernel
theorem dX8_init_71 : decode cX8_init 71 = .ok (.putfield 34, 3) := by decide +kernel
theorem dX8_init_74 : decode cX8_init 74 = .ok (.aload_n 0, 1) := by decide +kernel
theorem dX8_init_75 : decode cX8_init 75 = .ok (.bipush 48, 2) := by decide +kernel
theorem dX8_init_77 : decode cX8_init 77 = .ok (.newarray .int, 2) := by decide +kernel
theorem dX8_init_79 : decode cX8_init 79 = .ok (.putfield 37, 3) := by decide +kernel
theorem dX8_init_82 : decode cX8_init 82 = .ok (.aload_n 0, 1) := by decide +kernel
theorem dX8_init_83 : decode cX8_init 83 = .ok (.sipush 144, 3) := by decide +kernel
theorem dX8_init_86 : decode cX8_init 86 = .ok (.newarray .int, 2) := by decide +kernel
theorem dX8_init_88 : decode cX8_init 88 = .ok (.putfield 40, 3) := by decide +kernel
theorem dX8_init_91 : decode cX8_init 91 = .ok (.aload_n 0, 1) := by decide +kernel
theorem dX8_init_92 : decode cX8_init 92 = .ok (.sipush 480, 3) := by decide +kernel
theorem dX8_init_95 : decode cX8_init 95 = .ok (.newarray .int, 2) := by decide +kernel
theorem dX8_init_97 : decode cX8_init 97 = .ok (.putfield 43, 3) := by decide +kernel
theorem dX8_init_100 : decode cX8_init 100 = .ok (.aload_n 0, 1) := by decide +kernel
theorem dX8_init_101 : decode cX8_init 101 = .ok (.bipush 12, 2) := by decide +kernel
theorem dX8_init_103 : decode cX8_init 103 = .ok (.newarray .int, 2) := by decide +kernel
theorem dX8_init_105 : decode cX8_init 105 = .ok (.putfield 46, 3) := by decide +kernel
theorem dX8_init_108 : decode cX8_init 108 = .ok (.aload_n 0, 1) := by decide +kernel
theorem dX8_init_109 : decode cX8_init 109 = .ok (.bipush 32, 2) := by decide +kernel
theorem dX8_init_111 : decode cX8_init 111 = .ok (.newarray .int, 2) := by decide +kernel
theorem dX8_init_113 : decode cX8_init 113 = .ok (.putfield 49, 3) := by decide +kernel
theorem dX8_init_116 : decode cX8_init 116 = .ok (.aload_n 0, 1) := by decide +kernel
theorem dX8_init_117 : decode cX8_init 117 = .ok (.bipush 8, 2) := by decide +kernel
theorem dX8_init_119 : decode cX8_init 119 = .ok (.putfield 52, 3) := by decide +kernel
theorem dX8_init_122 : decode cX8_init 122 = .ok (.aload_n 0, 1) := by decide +kernel
theorem dX8_init_123 : decode cX8_init 123 = .ok (.bipush 11, 2) := by decide +kernel
theorem dX8_init_125 : decode cX8_init 125 = .ok (.putfield 56, 3) := by decide +kernel
theorem dX8_init_128 : decode cX8_init 128 = .ok (.return_, 1) := by decide +kernel
theorem dX8_no_0 : decode cX8_no 0 = .ok (.aload_n 0, 1) := by decide +kernel
theorem dX8_no_1 : decode cX8_no 1 = .ok (.getfield 7, 3) := by decide +kernel
theorem dX8_no_4 : decode cX8_no 4 = .ok (.iload_n 1, 1) := by decide +kernel
theorem dX8_no_5 : decode cX8_no 5 = .ok (.ineg, 1) := by decide +kernel
theorem dX8_no_6 : decode cX8_no 6 = .ok (.dup2, 1) := by decide +kernel
theorem dX8_no_7 : decode cX8_no 7 = .ok (.iaload, 1) := by decide +kernel
theorem dX8_no_8 : decode cX8_no 8 = .ok (.iconst 1, 1) := by decide +kernel
theorem dX8_no_9 : decode cX8_no 9 = .ok (.iadd, 1) := by decide +kernel
theorem dX8_no_10 : decode cX8_no 10 = .ok (.iastore, 1) := by decide +kernel
theorem dX8_no_11 : decode cX8_no 11 = .ok (.iload_n 1, 1) := by decide +kernel
theorem dX8_no_12 : decode cX8_no 12 = .ok (.ireturn, 1) := by decide +kernel
theorem dX8_lowest_0 : decode cX8_lowest 0 = .ok (.aload_n 0, 1) := by decide +kernel
theorem dX8_lowest_1 : decode cX8_lowest 1 = .ok (.getfield 7, 3) := by decide +kernel
theorem dX8_lowest_4 : decode cX8_lowest 4 = .ok (.iload_n 1, 1) := by decide +kernel
theorem dX8_lowest_5 : decode cX8_lowest 5 = .ok (.ineg, 1) := by decide +kernel
theorem dX8_lowest_6 : decode cX8_lowest 6 = .ok (.dup2, 1) := by decide +kernel
theorem dX8_lowest_7 : decode cX8_lowest 7 = .ok (.iaload, 1) := by decide +kernel
theorem dX8_lowest_8 : decode cX8_lowest 8 = .ok (.iconst 1, 1) := by decide +kernel
theorem dX8_lowest_9 : decode cX8_lowest 9 = .ok (.iadd, 1) := by decide +kernel
theorem dX8_lowest_10 : decode cX8_lowest 10 = .ok (.iastore, 1) := by decide +kernel
theorem dX8_lowest_11 : decode cX8_lowest 11 = .ok (.ldc2_w 59, 3) := by decide +kernel
theorem dX8_lowest_14 : decode cX8_lowest 14 = .ok (.iload_n 1, 1) := by decide +kernel
theorem dX8_lowest_15 : decode cX8_lowest 15 = .ok (.i2l, 1) := by decide +kernel
theorem dX8_lowest_16 : decode cX8_lowest 16 = .ok (.lsub, 1) := by decide +kernel
theorem dX8_lowest_17 : decode cX8_lowest 17 = .ok (.lreturn, 1) := by decide +kernel
theorem dX8_isIn_0 : decode cX8_isIn 0 = .ok (.iload_n 0, 1) := by decide +kernel
theorem dX8_isIn_1 : decode cX8_isIn 1 = .ok (.iload_n 1, 1) := by decide +kernel
theorem dX8_isIn_2 : decode cX8_isIn 2 = .ok (.if_icmp .lt 12, 3) := by decide +kernel
theorem dX8_isIn_5 : decode cX8_isIn 5 = .ok (.iload_n 0, 1) := by decide +kernel
theorem dX8_isIn_6 : decode cX8_isIn 6 = .ok (.iload_n 2, 1) := by decide +kernel
theorem dX8_isIn_7 : decode cX8_isIn 7 = .ok (.if_icmp .gt 7, 3) := by decide +kernel
theorem dX8_isIn_10 : decode cX8_isIn 10 = .ok (.iconst 1, 1) := by decide +kernel
theorem dX8_isIn_11 : decode cX8_isIn 11 = .ok (.goto 4, 3) := by decide +kernel
theorem dX8_isIn_14 : decode cX8_isIn 14 = .ok (.iconst 0, 1) := by decide +kernel
theorem dX8_isIn_15 : decode cX8_isIn 15 = .ok (.ireturn, 1) := by decide +kernel
theorem dX8_bound_0 : decode cX8_bound 0 = .ok (.iload_n 0, 1) := by decide +kernel
theorem dX8_bound_1 : decode cX8_bound 1 = .ok (.iload_n 1, 1) := by decide +kernel
theorem dX8_bound_2 : decode cX8_bound 2 = .ok (.if_icmp .ge 8, 3) := by decide +kernel
theorem dX8_bound_5 : decode cX8_bound 5 = .ok (.bipush (-4), 2) := by decide +kernel
theorem dX8_bound_7 : decode cX8_bound 7 = .ok (.goto 14, 3) := by decide +kernel
theorem dX8_bound_10 : decode cX8_bound 10 = .ok (.iload_n 0, 1) := by decide +kernel
theorem dX8_bound_11 : decode cX8_bound 11 = .ok (.iload_n 2, 1) := by decide +kernel
theorem dX8_bound_12 : decode cX8_bound 12 = .ok (.if_icmp .le 8, 3) := by decide +kernel
theorem dX8_bound_15 : decode cX8_bound 15 = .ok (.bipush (-6), 2) := by decide +kernel
theorem dX8_bound_17 : decode cX8_bound 17 = .ok (.goto 4, 3) := by decide +kernel
theorem dX8_bound_20 : decode cX8_bound 20 = .ok (.iconst 0, 1) := by decide +kernel
theorem dX8_bound_21 : decode cX8_bound 21 = .ok (.ireturn, 1) := by decide +kernel
theorem dX8_has_0 : decode cX8_has 0 = .ok (.iload_n 0, 1) := by decide +kernel
theorem dX8_has_1 : decode cX8_has 1 = .ok (.iload_n 1, 1) := by decide +kernel
theorem dX8_has_2 : decode cX8_has 2 = .ok (.ishr, 1) := by decide +kernel
theorem dX8_has_3 : decode cX8_has 3 = .ok (.iconst 1, 1) := by decide +kernel
theorem dX8_has_4 : decode cX8_has 4 = .ok (.iand, 1) := by decide +kernel
theorem dX8_has_5 : decode cX8_has 5 = .ok (.iconst 1, 1) := by decide +kernel
theorem dX8_has_6 : decode cX8_has 6 = .ok (.if_icmp .ne 7, 3) := by decide +kernel
theorem dX8_has_9 : decode cX8_has 9 = .ok (.iconst 1, 1) := by decide +kernel
theorem dX8_has_10 : decode cX8_has 10 = .ok (.goto 4, 3) := by decide +kernel
theorem dX8_has_13 : decode cX8_has 13 = .ok (.iconst 0, 1) := by decide +kernel
theorem dX8_has_14 : decode cX8_has 14 = .ok (.ireturn, 1) := by decide +kernel
theorem dX8_bits_0 : decode cX8_bits 0 = .ok (.iconst 0, 1) := by decide +kernel
theorem dX8_bits_1 : decode cX8_bits 1 = .ok (.istore_n 1, 1) := by decide +kernel
theorem dX8_bits_2 : decode cX8_bits 2 = .ok (.iconst 0, 1) := by decide +kernel
theorem dX8_bits_3 : decode cX8_bits 3 = .ok (.istore_n 2, 1) := by decide +kernel
theorem dX8_bits_4 : decode cX8_bits 4 = .ok (.iload_n 2, 1) := by decide +kernel
theorem dX8_bits_5 : decode cX8_bits 5 = .ok (.bipush 31, 2) := by decide +kernel
theorem dX8_bits_7 : decode cX8_bits 7 = .ok (.if_icmp .ge 17, 3) := by decide +kernel
theorem dX8_bits_10 : decode cX8_bits 10 = .ok (.iload_n 1, 1) := by decide +kernel
theorem dX8_bits_11 : decode cX8_bits 11 = .ok (.iload_n 0, 1) := by decide +kernel
theorem dX8_bits_12 : decode cX8_bits 12 = .ok (.iload_n 2, 1) := by decide +kernel
theorem dX8_bits_13 : decode cX8_bits 13 = .ok (.ishr, 1) := by decide +kernel
theorem dX8_bits_14 : decode cX8_bits 14 = .ok (.iconst 1, 1) := by decide +kernel
theorem dX8_bits_15 : decode cX8_bits 15 = .ok (.iand, 1) := by decide +kernel
theorem dX8_bits_16 : decode cX8_bits 16 = .ok (.iadd, 1) := by decide +kernel
theorem dX8_bits_17 : decode cX8_bits 17 = .ok (.istore_n 1, 1) := by decide +kernel
theorem dX8_bits_18 : decode cX8_bits 18 = .ok (.iinc 2 1, 3) := by decide +kernel
theorem dX8_bits_21 : decode cX8_bits 21 = .ok (.goto (-17), 3) := by decide +kernel
theorem dX8_bits_24 : decode cX8_bits 24 = .ok (.iload_n 1, 1) := by decide +kernel
theorem dX8_bits_25 : decode cX8_bits 25 = .ok (.ireturn, 1) := by decide +kernel
theorem dX8_apart_0 : decode cX8_apart 0 = .ok (.iload_n 0, 1) := by decide +kernel
theorem dX8_apart_1 : decode cX8_apart 1 = .ok (.iload_n 1, 1) := by decide +kernel
theorem dX8_apart_2 : decode cX8_apart 2 = .ok (.if_icmp .le 9, 3) := by decide +kernel
theorem dX8_apart_5 : decode cX8_apart 5 = .ok (.iload_n 0, 1) := by decide +kernel
theorem dX8_apart_6 : decode cX8_apart 6 = .ok (.iload_n 1, 1) := by decide +kernel
theorem dX8_apart_7 : decode cX8_apart 7 = .ok (.isub, 1) := by decide +kernel
theorem dX8_apart_8 : decode cX8_apart 8 = .ok (.goto 6, 3) := by decide +kernel
theorem dX8_apart_11 : decode cX8_apart 11 = .ok (.iload_n 1, 1) := by decide +kernel
theorem dX8_apart_12 : decode cX8_apart 12 = .ok (.iload_n 0, 1) := by decide +kernel
theorem dX8_apart_13 : decode cX8_apart 13 = .ok (.isub, 1) := by decide +kernel
theorem dX8_apart_14 : decode cX8_apart 14 = .ok (.ireturn, 1) := by decide +kernel
theorem dX8_isStreet_0 : decode cX8_isStreet 0 = .ok (.iload_n 1, 1) := by decide +kernel
theorem dX8_isStreet_1 : decode cX8_isStreet 1 = .ok (.ifCond .lt 15, 3) := by decide +kernel
theorem dX8_isStreet_4 : decode cX8_isStreet 4 = .ok (.iload_n 1, 1) := by decide +kernel
theorem dX8_isStreet_5 : decode cX8_isStreet 5 = .ok (.aload_n 0, 1) := by decide +kernel
theorem dX8_isStreet_6 : decode cX8_isStreet 6 = .ok (.getfield 61, 3) := by decide +kernel
theorem dX8_isStreet_9 : decode cX8_isStreet 9 = .ok (.if_icmp .ge 7, 3) := by decide +kernel
theorem dX8_isStreet_12 : decode cX8_isStreet 12 = .ok (.iconst 1, 1) := by decide +kernel
theorem dX8_isStreet_13 : decode cX8_isStreet 13 = .ok (.goto 4, 3) := by decide +kernel
theorem dX8_isStreet_16 : decode cX8_isStreet 16 = .ok (.iconst 0, 1) := by decide +kernel
theorem dX8_isStreet_17 : decode cX8_isStreet 17 = .ok (.ireturn, 1) := by decide +kernel
theorem dX8_isWay_0 : decode cX8_isWay 0 = .ok (.iload_n 1, 1) := by decide +kernel
theorem dX8_isWay_1 : decode cX8_isWay 1 = .ok (.ifCond .lt 15, 3) := by decide +kernel
theorem dX8_isWay_4 : decode cX8_isWay 4 = .ok (.iload_n 1, 1) := by decide +kernel
theorem dX8_isWay_5 : decode cX8_isWay 5 = .ok (.aload_n 0, 1) := by decide +kernel
theorem dX8_isWay_6 : decode cX8_isWay 6 = .ok (.getfield 64, 3) := by decide +kernel
theorem dX8_isWay_9 : decode cX8_isWay 9 = .ok (.if_icmp .ge 7, 3) := by decide +kernel
theorem dX8_isWay_12 : decode cX8_isWay 12 = .ok (.iconst 1, 1) := by decide +kernel
theorem dX8_isWay_13 : decode cX8_isWay 13 = .ok (.goto 4, 3) := by decide +kernel
theorem dX8_isWay_16 : decode cX8_isWay 16 = .ok (.iconst 0, 1) := by decide +kernel
theorem dX8_isWay_17 : decode cX8_isWay 17 = .ok (.ireturn, 1) := by decide +kernel
theorem dX8_isLearner_0 : decode cX8_isLearner 0 = .ok (.iload_n 1, 1) := by decide +kernel
theorem dX8_isLearner_1 : decode cX8_isLearner 1 = .ok (.ifCond .lt 15, 3) := by decide +kernel
theorem dX8_isLearner_4 : decode cX8_isLearner 4 = .ok (.iload_n 1, 1) := by decide +kernel
theorem dX8_isLearner_5 : decode cX8_isLearner 5 = .ok (.aload_n 0, 1) := by decide +kernel
theorem dX8_isLearner_6 : decode cX8_isLearner 6 = .ok (.getfield 67, 3) := by decide +kernel
theorem dX8_isLearner_9 : decode cX8_isLearner 9 = .ok (.if_icmp .ge 7, 3) := by decide +kernel
theorem dX8_isLearner_12 : decode cX8_isLearner 12 = .ok (.iconst 1, 1) := by decide +kernel
theorem dX8_isLearner_13 : decode cX8_isLearner 13 = .ok (.goto 4, 3) := by decide +kernel
theorem dX8_isLearner_16 : decode cX8_isLearner 16 = .ok (.iconst 0, 1) := by decide +kernel
theorem dX8_isLearner_17 : decode cX8_isLearner 17 = .ok (.ireturn, 1) := by decide +kernel
theorem dX8_isHour_0 : decode cX8_isHour 0 = .ok (.iload_n 0, 1) := by decide +kernel
theorem dX8_isHour_1 : decode cX8_isHour 1 = .ok (.ifCond .lt 13, 3) := by decide +kernel
theorem dX8_isHour_4 : decode cX8_isHour 4 = .ok (.iload_n 0, 1) := by decide +kernel
theorem dX8_isHour_5 : decode cX8_isHour 5 = .ok (.bipush 24, 2) := by decide +kernel
theorem dX8_isHour_7 : decode cX8_isHour 7 = .ok (.if_icmp .ge 7, 3) := by decide +kernel
theorem dX8_isHour_10 : decode cX8_isHour 10 = .ok (.iconst 1, 1) := by decide +kernel
theorem dX8_isHour_11 : decode cX8_isHour 11 = .ok (.goto 4, 3) := by decide +kernel
theorem dX8_isHour_14 : decode cX8_isHour 14 = .ok (.iconst 0, 1) := by decide +kernel
theorem dX8_isHour_15 : decode cX8_isHour 15 = .ok (.ireturn, 1) := by decide +kernel
theorem dX8_feed_0 : decode cX8_feed 0 = .ok (.iload_n 1, 1) := by decide +kernel
theorem dX8_feed_1 : decode cX8_feed 1 = .ok (.iconst 0, 1) := by decide +kernel
theorem dX8_feed_2 : decode cX8_feed 2 = .ok (.sipush 255, 3) := by decide +kernel
theorem dX8_feed_5 : decode cX8_feed 5 = .ok (.invokestatic 70, 3) := by decide +kernel
theorem dX8_feed_8 : decode cX8_feed 8 = .ok (.istore_n 2, 1) := by decide +kernel
theorem dX8_feed_9 : decode cX8_feed 9 = .ok (.iload_n 2, 1) := by decide +kernel
theorem dX8_feed_10 : decode cX8_feed 10 = .ok (.ifCond .ne 15, 3) := by decide +kernel
theorem dX8_feed_13 : decode cX8_feed 13 = .ok (.aload_n 0, 1) := by decide +kernel
theorem dX8_feed_14 : decode cX8_feed 14 = .ok (.getfield 74, 3) := by decide +kernel
theorem dX8_feed_17 : decode cX8_feed 17 = .ok (.bipush 96, 2) := by decide +kernel
theorem dX8_feed_19 : decode cX8_feed 19 = .ok (.if_icmp .ne 6, 3) := by decide +kernel
theorem dX8_feed_22 : decode cX8_feed 22 = .ok (.bipush (-6), 2) := by decide +kernel
theorem dX8_feed_24 : decode cX8_feed 24 = .ok (.istore_n 2, 1) := by decide +kernel
theorem dX8_feed_25 : decode cX8_feed 25 = .ok (.iload_n 2, 1) := by decide +kernel
theorem dX8_feed_26 : decode cX8_feed 26 = .ok (.ifCond .eq 9, 3) := by decide +kernel
theorem dX8_feed_29 : decode cX8_feed 29 = .ok (.aload_n 0, 1) := by decide +kernel
theorem dX8_feed_30 : decode cX8_feed 30 = .ok (.iload_n 2, 1) := by decide +kernel
theorem dX8_feed_31 : decode cX8_feed 31 = .ok (.invokevirtual 77, 3) := by decide +kernel
theorem dX8_feed_34 : decode cX8_feed 34 = .ok (.ireturn, 1) := by decide +kernel
theorem dX8_feed_35 : decode cX8_feed 35 = .ok (.aload_n 0, 1) := by decide +kernel
theorem dX8_feed_36 : decode cX8_feed 36 = .ok (.getfield 31, 3) := by decide +kernel
theorem dX8_feed_39 : decode cX8_feed 39 = .ok (.aload_n 0, 1) := by decide +kernel
theorem dX8_feed_40 : decode cX8_feed 40 = .ok (.getfield 74, 3) := by decide +kernel
theorem dX8_feed_43 : decode cX8_feed 43 = .ok (.iload_n 1, 1) := by decide +kernel
theorem dX8_feed_44 : decode cX8_feed 44 = .ok (.iastore, 1) := by decide +kernel
theorem dX8_feed_45 : decode cX8_feed 45 = .ok (.aload_n 0, 1) := by decide +kernel
theorem dX8_feed_46 : decode cX8_feed 46 = .ok (.dup, 1) := by decide +kernel
theorem dX8_feed_47 : decode cX8_feed 47 = .ok (.getfield 74, 3) := by decide +kernel
theorem dX8_feed_50 : decode cX8_feed 50 = .ok (.iconst 1, 1) := by decide +kernel
theorem dX8_feed_51 : decode cX8_feed 51 = .ok (.iadd, 1) := by decide +kernel
theorem dX8_feed_52 : decode cX8_feed 52 = .ok (.putfield 74, 3) := by decide +kernel
theorem dX8_feed_55 : decode cX8_feed 55 = .ok (.aload_n 0, 1) := by decide +kernel
theorem dX8_feed_56 : decode cX8_feed 56 = .ok (.getfield 74, 3) := by decide +kernel
theorem dX8_feed_59 : decode cX8_feed 59 = .ok (.ireturn, 1) := by decide +kernel
theorem dX8_next_0 : decode cX8_next 0 = .ok (.aload_n 0, 1) := by decide +kernel
theorem dX8_next_1 : decode cX8_next 1 = .ok (.getfield 81, 3) := by decide +kernel
theorem dX8_next_4 : decode cX8_next 4 = .ok (.aload_n 0, 1) := by decide +kernel
theorem dX8_next_5 : decode cX8_next 5 = .ok (.getfield 74, 3) := by decide +kernel
theorem dX8_next_8 : decode cX8_next 8 = .ok (.if_icmp .ge 15, 3) := by decide +kernel
theorem dX8_next_11 : decode cX8_next 11 = .ok (.aload_n 0, 1) := by decide +kernel
theorem dX8_next_12 : decode cX8_next 12 = .ok (.getfield 31, 3) := by decide +kernel
theorem dX8_next_15 : decode cX8_next 15 = .ok (.aload_n 0, 1) := by decide +kernel
theorem dX8_next_16 : decode cX8_next 16 = .ok (.getfield 81, 3) := by decide +kernel
theorem dX8_next_19 : decode cX8_next 19 = .ok (.iaload, 1) := by decide +kernel
theorem dX8_next_20 : decode cX8_next 20 = .ok (.goto 4, 3) := by decide +kernel
theorem dX8_next_23 : decode cX8_next 23 = .ok (.iconst (-1), 1) := by decide +kernel
theorem dX8_next_24 : decode cX8_next 24 = .ok (.ireturn, 1) := by decide +kernel
theorem dX8_readsDigits_0 : decode cX8_readsDigits 0 = .ok (.iconst 0, 1) := by decide +kernel
theorem dX8_readsDigits_1 : decode cX8_readsDigits 1 = .ok (.istore_n 3, 1) := by decide +kernel
theorem dX8_readsDigits_2 : decode cX8_readsDigits 2 = .ok (.iconst 0, 1) := by decide +kernel
theorem dX8_readsDigits_3 : decode cX8_readsDigits 3 = .ok (.istore 4, 2) := by decide +kernel
theorem dX8_readsDigits_5 : decode cX8_readsDigits 5 = .ok (.iload 4, 2) := by decide +kernel
theorem dX8_readsDigits_7 : decode cX8_readsDigits 7 = .ok (.iload_n 2, 1) := by decide +kernel
theorem dX8_readsDigits_8 : decode cX8_readsDigits 8 = .ok (.if_icmp .ge 48, 3) := by decide +kernel
theorem dX8_readsDigits_11 : decode cX8_readsDigits 11 = .ok (.aload_n 0, 1) := by decide +kernel
theorem dX8_readsDigits_12 : decode cX8_readsDigits 12 = .ok (.invokevirtual 84, 3) := by decide +kernel
theorem dX8_readsDigits_15 : decode cX8_readsDigits 15 = .ok (.bipush 48, 2) := by decide +kernel
theorem dX8_readsDigits_17 : decode cX8_readsDigits 17 = .ok (.bipush 57, 2) := by decide +kernel
theorem dX8_readsDigits_19 : decode cX8_readsDigits 19 = .ok (.invokestatic 88, 3) := by decide +kernel
theorem dX8_readsDigits_22 : decode cX8_readsDigits 22 = .ok (.ifCond .ne 5, 3) := by decide +kernel
theorem dX8_readsDigits_25 : decode cX8_readsDigits 25 = .ok (.iconst 0, 1) := by decide +kernel
theorem dX8_readsDigits_26 : decode cX8_readsDigits 26 = .ok (.ireturn, 1) := by decide +kernel
theorem dX8_readsDigits_27 : decode cX8_readsDigits 27 = .ok (.bipush 10, 2) := by decide +kernel
theorem dX8_readsDigits_29 : decode cX8_readsDigits 29 = .ok (.iload_n 3, 1) := by decide +kernel
theorem dX8_readsDigits_30 : decode cX8_readsDigits 30 = .ok (.imul, 1) := by decide +kernel
theorem dX8_readsDigits_31 : decode cX8_readsDigits 31 = .ok (.aload_n 0, 1) := by decide +kernel
theorem dX8_readsDigits_32 : decode cX8_readsDigits 32 = .ok (.invokevirtual 84, 3) := by decide +kernel
theorem dX8_readsDigits_35 : decode cX8_readsDigits 35 = .ok (.iadd, 1) := by decide +kernel
theorem dX8_readsDigits_36 : decode cX8_readsDigits 36 = .ok (.bipush 48, 2) := by decide +kernel
theorem dX8_readsDigits_38 : decode cX8_readsDigits 38 = .ok (.isub, 1) := by decide +kernel
theorem dX8_readsDigits_39 : decode cX8_readsDigits 39 = .ok (.istore_n 3, 1) := by decide +kernel
theorem dX8_readsDigits_40 : decode cX8_readsDigits 40 = .ok (.aload_n 0, 1) := by decide +kernel
theorem dX8_readsDigits_41 : decode cX8_readsDigits 41 = .ok (.dup, 1) := by decide +kernel
theorem dX8_readsDigits_42 : decode cX8_readsDigits 42 = .ok (.getfield 81, 3) := by decide +kernel
theorem dX8_readsDigits_45 : decode cX8_readsDigits 45 = .ok (.iconst 1, 1) := by decide +kernel
theorem dX8_readsDigits_46 : decode cX8_readsDigits 46 = .ok (.iadd, 1) := by decide +kernel
theorem dX8_readsDigits_47 : decode cX8_readsDigits 47 = .ok (.putfield 81, 3) := by decide +kernel
theorem dX8_readsDigits_50 : decode cX8_readsDigits 50 = .ok (.iinc 4 1, 3) := by decide +kernel
theorem dX8_readsDigits_53 : decode cX8_readsDigits 53 = .ok (.goto (-48), 3) := by decide +kernel
theorem dX8_readsDigits_56 : decode cX8_readsDigits 56 = .ok (.aload_n 0, 1) := by decide +kernel
theorem dX8_readsDigits_57 : decode cX8_readsDigits 57 = .ok (.getfield 40, 3) := by decide +kernel
theorem dX8_readsDigits_60 : decode cX8_readsDigits 60 = .ok (.iload_n 1, 1) := by decide +kernel
theorem dX8_readsDigits_61 : decode cX8_readsDigits 61 = .ok (.iload_n 3, 1) := by decide +kernel
theorem dX8_readsDigits_62 : decode cX8_readsDigits 62 = .ok (.iastore, 1) := by decide +kernel
theorem dX8_readsDigits_63 : decode cX8_readsDigits 63 = .ok (.iconst 1, 1) := by decide +kernel
theorem dX8_readsDigits_64 : decode cX8_readsDigits 64 = .ok (.ireturn, 1) := by decide +kernel
theorem dX8_readsAll_0 : decode cX8_readsAll 0 = .ok (.iload_n 1, 1) := by decide +kernel
theorem dX8_readsAll_1 : decode cX8_readsAll 1 = .ok (.tableswitch 155 100 119 #[153, 155, 155, 155, 146, 155, 155, 155, 139, 146, 155, 155, 155, 155, 155, 95, 155, 155, 155, 132], 95) := by decide +kernel
theorem dX8_readsAll_96 : decode cX8_readsAll 96 = .ok (.aload_n 0, 1) := by decide +kernel
theorem dX8_readsAll_97 : decode cX8_readsAll 97 = .ok (.iload_n 2, 1) := by decide +kernel
theorem dX8_readsAll_98 : decode cX8_readsAll 98 = .ok (.iconst 1, 1) := by decide +kernel
theorem dX8_readsAll_99 : decode cX8_readsAll 99 = .ok (.invokevirtual 92, 3) := by decide +kernel
theorem dX8_readsAll_102 : decode cX8_readsAll 102 = .ok (.ifCond .eq 29, 3) := by decide +kernel
theorem dX8_readsAll_105 : decode cX8_readsAll 105 = .ok (.aload_n 0, 1) := by decide +kernel
theorem dX8_readsAll_106 : decode cX8_readsAll 106 = .ok (.iload_n 2, 1) := by decide +kernel
theorem dX8_readsAll_107 : decode cX8_readsAll 107 = .ok (.iconst 1, 1) := by decide +kernel
theorem dX8_readsAll_108 : decode cX8_readsAll 108 = .ok (.iadd, 1) := by decide +kernel
theorem dX8_readsAll_109 : decode cX8_readsAll 109 = .ok (.iconst 1, 1) := by decide +kernel
theorem dX8_readsAll_110 : decode cX8_readsAll 110 = .ok (.invokevirtual 92, 3) := by decide +kernel
theorem dX8_readsAll_113 : decode cX8_readsAll 113 = .ok (.ifCond .eq 18, 3) := by decide +kernel
theorem dX8_readsAll_116 : decode cX8_readsAll 116 = .ok (.aload_n 0, 1) := by decide +kernel
theorem dX8_readsAll_117 : decode cX8_readsAll 117 = .ok (.iload_n 2, 1) := by decide +kernel
theorem dX8_readsAll_118 : decode cX8_readsAll 118 = .ok (.iconst 2, 1) := by decide +kernel
theorem dX8_readsAll_119 : decode cX8_readsAll 119 = .ok (.iadd, 1) := by decide +kernel
theorem dX8_readsAll_120 : decode cX8_readsAll 120 = .ok (.iconst 1, 1) := by decide +kernel
theorem dX8_readsAll_121 : decode cX8_readsAll 121 = .ok (.invokevirtual 92, 3) := by decide +kernel
theorem dX8_readsAll_124 : decode cX8_readsAll 124 = .ok (.ifCond .eq 7, 3) := by decide +kernel
theorem dX8_readsAll_127 : decode cX8_readsAll 127 = .ok (.iconst 1, 1) := by decide +kernel
theorem dX8_readsAll_128 : decode cX8_readsAll 128 = .ok (.goto 4, 3) := by decide +kernel
theorem dX8_readsAll_131 : decode cX8_readsAll 131 = .ok (.iconst 0, 1) := by decide +kernel
theorem dX8_readsAll_132 : decode cX8_readsAll 132 = .ok (.ireturn, 1) := by decide +kernel
theorem dX8_readsAll_133 : decode cX8_readsAll 133 = .ok (.aload_n 0, 1) := by decide +kernel
theorem dX8_readsAll_134 : decode cX8_readsAll 134 = .ok (.iload_n 2, 1) := by decide +kernel
theorem dX8_readsAll_135 : decode cX8_readsAll 135 = .ok (.iconst 3, 1) := by decide +kernel
theorem dX8_readsAll_136 : decode cX8_readsAll 136 = .ok (.invokevirtual 92, 3) := by decide +kernel
theorem dX8_readsAll_139 : decode cX8_readsAll 139 = .ok (.ireturn, 1) := by decide +kernel
theorem dX8_readsAll_140 : decode cX8_readsAll 140 = .ok (.aload_n 0, 1) := by decide +kernel
theorem dX8_readsAll_141 : decode cX8_readsAll 141 = .ok (.iload_n 2, 1) := by decide +kernel
theorem dX8_readsAll_142 : decode cX8_readsAll 142 = .ok (.iconst 1, 1) := by decide +kernel
theorem dX8_readsAll_143 : decode cX8_readsAll 143 = .ok (.invokevirtual 92, 3) := by decide +kernel
theorem dX8_readsAll_146 : decode cX8_readsAll 146 = .ok (.ireturn, 1) := by decide +kernel
theorem dX8_readsAll_147 : decode cX8_readsAll 147 = .ok (.aload_n 0, 1) := by decide +kernel
theorem dX8_readsAll_148 : decode cX8_readsAll 148 = .ok (.iload_n 2, 1) := by decide +kernel
theorem dX8_readsAll_149 : decode cX8_readsAll 149 = .ok (.iconst 2, 1) := by decide +kernel
theorem dX8_readsAll_150 : decode cX8_readsAll 150 = .ok (.invokevirtual 92, 3) := by decide +kernel
theorem dX8_readsAll_153 : decode cX8_readsAll 153 = .ok (.ireturn, 1) := by decide +kernel
theorem dX8_readsAll_154 : decode cX8_readsAll 154 = .ok (.iconst 1, 1) := by decide +kernel
theorem dX8_readsAll_155 : decode cX8_readsAll 155 = .ok (.ireturn, 1) := by decide +kernel
theorem dX8_readsAll_156 : decode cX8_readsAll 156 = .ok (.aload_n 0, 1) := by decide +kernel
theorem dX8_readsAll_157 : decode cX8_readsAll 157 = .ok (.iload_n 2, 1) := by decide +kernel
theorem dX8_readsAll_158 : decode cX8_readsAll 158 = .ok (.iconst 1, 1) := by decide +kernel
theorem dX8_readsAll_159 : decode cX8_readsAll 159 = .ok (.invokevirtual 92, 3) := by decide +kernel
theorem dX8_readsAll_162 : decode cX8_readsAll 162 = .ok (.ifCond .eq 18, 3) := by decide +kernel
theorem dX8_readsAll_165 : decode cX8_readsAll 165 = .ok (.aload_n 0, 1) := by decide +kernel
theorem dX8_readsAll_166 : decode cX8_readsAll 166 = .ok (.iload_n 2, 1) := by decide +kernel
theorem dX8_readsAll_167 : decode cX8_readsAll 167 = .ok (.iconst 1, 1) := by decide +kernel
theorem dX8_readsAll_168 : decode cX8_readsAll 168 = .ok (.iadd, 1) := by decide +kernel
theorem dX8_readsAll_169 : decode cX8_readsAll 169 = .ok (.iconst 1, 1) := by decide +kernel
theorem dX8_readsAll_170 : decode cX8_readsAll 170 = .ok (.invokevirtual 92, 3) := by decide +kernel
theorem dX8_readsAll_173 : decode cX8_readsAll 173 = .ok (.ifCond .eq 7, 3) := by decide +kernel
theorem dX8_readsAll_176 : decode cX8_readsAll 176 = .ok (.iconst 1, 1) := by decide +kernel
theorem dX8_readsAll_177 : decode cX8_readsAll 177 = .ok (.goto 4, 3) := by decide +kernel
theorem dX8_readsAll_180 : decode cX8_readsAll 180 = .ok (.iconst 0, 1) := by decide +kernel
theorem dX8_readsAll_181 : decode cX8_readsAll 181 = .ok (.ireturn, 1) := by decide +kernel
theorem dX8_isLetter_0 : decode cX8_isLetter 0 = .ok (.iload_n 0, 1) := by decide +kernel
theorem dX8_isLetter_1 : decode cX8_isLetter 1 = .ok (.bipush 115, 2) := by decide +kernel
theorem dX8_isLetter_3 : decode cX8_isLetter 3 = .ok (.if_icmp .eq 45, 3) := by decide +kernel
theorem dX8_isLetter_6 : decode cX8_isLetter 6 = .ok (.iload_n 0, 1) := by decide +kernel
theorem dX8_isLetter_7 : decode cX8_isLetter 7 = .ok (.bipush 119, 2) := by decide +kernel
theorem dX8_isLetter_9 : decode cX8_isLetter 9 = .ok (.if_icmp .eq 39, 3) := by decide +kernel
theorem dX8_isLetter_12 : decode cX8_isLetter 12 = .ok (.iload_n 0, 1) := by decide +kernel
theorem dX8_isLetter_13 : decode cX8_isLetter 13 = .ok (.bipush 108, 2) := by decide +kernel
theorem dX8_isLetter_15 : decode cX8_isLetter 15 = .ok (.if_icmp .eq 33, 3) := by decide +kernel
theorem dX8_isLetter_18 : decode cX8_isLetter 18 = .ok (.iload_n 0, 1) := by decide +kernel
theorem dX8_isLetter_19 : decode cX8_isLetter 19 = .ok (.bipush 107, 2) := by decide +kernel
theorem dX8_isLetter_21 : decode cX8_isLetter 21 = .ok (.if_icmp .eq 27, 3) := by decide +kernel
theorem dX8_isLetter_24 : decode cX8_isLetter 24 = .ok (.iload_n 0, 1) := by decide +kernel
theorem dX8_isLetter_25 : decode cX8_isLetter 25 = .ok (.bipush 104, 2) := by decide +kernel
theorem dX8_isLetter_27 : decode cX8_isLetter 27 = .ok (.if_icmp .eq 21, 3) := by decide +kernel
theorem dX8_isLetter_30 : decode cX8_isLetter 30 = .ok (.iload_n 0, 1) := by decide +kernel
theorem dX8_isLetter_31 : decode cX8_isLetter 31 = .ok (.bipush 116, 2) := by decide +kernel
theorem dX8_isLetter_33 : decode cX8_isLetter 33 = .ok (.if_icmp .eq 15, 3) := by decide +kernel
theorem dX8_isLetter_36 : decode cX8_isLetter 36 = .ok (.iload_n 0, 1) := by decide +kernel
theorem dX8_isLetter_37 : decode cX8_isLetter 37 = .ok (.bipush 109, 2) := by decide +kernel
theorem dX8_isLetter_39 : decode cX8_isLetter 39 = .ok (.if_icmp .eq 9, 3) := by decide +kernel
theorem dX8_isLetter_42 : decode cX8_isLetter 42 = .ok (.iload_n 0, 1) := by decide +kernel
theorem dX8_isLetter_43 : decode cX8_isLetter 43 = .ok (.bipush 100, 2) := by decide +kernel
theorem dX8_isLetter_45 : decode cX8_isLetter 45 = .ok (.if_icmp .ne 7, 3) := by decide +kernel
theorem dX8_isLetter_48 : decode cX8_isLetter 48 = .ok (.iconst 1, 1) := by decide +kernel
theorem dX8_isLetter_49 : decode cX8_isLetter 49 = .ok (.goto 4, 3) := by decide +kernel
theorem dX8_isLetter_52 : decode cX8_isLetter 52 = .ok (.iconst 0, 1) := by decide +kernel
theorem dX8_isLetter_53 : decode cX8_isLetter 53 = .ok (.ireturn, 1) := by decide +kernel
theorem dX8_statement_0 : decode cX8_statement 0 = .ok (.aload_n 0, 1) := by decide +kernel
theorem dX8_statement_1 : decode cX8_statement 1 = .ok (.invokevirtual 84, 3) := by decide +kernel
theorem dX8_statement_4 : decode cX8_statement 4 = .ok (.istore_n 1, 1) := by decide +kernel
theorem dX8_statement_5 : decode cX8_statement 5 = .ok (.iload_n 1, 1) := by decide +kernel
theorem dX8_statement_6 : decode cX8_statement 6 = .ok (.invokestatic 96, 3) := by decide +kernel
theorem dX8_statement_9 : decode cX8_statement 9 = .ok (.ifCond .ne 5, 3) := by decide +kernel
theorem dX8_statement_12 : decode cX8_statement 12 = .ok (.iconst 0, 1) := by decide +kernel
theorem dX8_statement_13 : decode cX8_statement 13 = .ok (.ireturn, 1) := by decide +kernel
theorem dX8_statement_14 : decode cX8_statement 14 = .ok (.aload_n 0, 1) := by decide +kernel
theorem dX8_statement_15 : decode cX8_statement 15 = .ok (.getfield 34, 3) := by decide +kernel
theorem dX8_statement_18 : decode cX8_statement 18 = .ok (.aload_n 0, 1) := by decide +kernel
theorem dX8_statement_19 : decode cX8_statement 19 = .ok (.getfield 100, 3) := by decide +kernel
theorem dX8_statement_22 : decode cX8_statement 22 = .ok (.iload_n 1, 1) := by decide +kernel
theorem dX8_statement_23 : decode cX8_statement 23 = .ok (.iastore, 1) := by decide +kernel
theorem dX8_statement_24 : decode cX8_statement 24 = .ok (.aload_n 0, 1) := by decide +kernel
theorem dX8_statement_25 : decode cX8_statement 25 = .ok (.getfield 37, 3) := by decide +kernel
theorem dX8_statement_28 : decode cX8_statement 28 = .ok (.aload_n 0, 1) := by decide +kernel
theorem dX8_statement_29 : decode cX8_statement 29 = .ok (.getfield 100, 3) := by decide +kernel
theorem dX8_statement_32 : decode cX8_statement 32 = .ok (.aload_n 0, 1) := by decide +kernel
theorem dX8_statement_33 : decode cX8_statement 33 = .ok (.getfield 81, 3) := by decide +kernel
theorem dX8_statement_36 : decode cX8_statement 36 = .ok (.iastore, 1) := by decide +kernel
theorem dX8_statement_37 : decode cX8_statement 37 = .ok (.aload_n 0, 1) := by decide +kernel
theorem dX8_statement_38 : decode cX8_statement 38 = .ok (.dup, 1) := by decide +kernel
theorem dX8_statement_39 : decode cX8_statement 39 = .ok (.getfield 81, 3) := by decide +kernel
theorem dX8_statement_42 : decode cX8_statement 42 = .ok (.iconst 1, 1) := by decide +kernel
theorem dX8_statement_43 : decode cX8_statement 43 = .ok (.iadd, 1) := by decide +kernel
theorem dX8_statement_44 : decode cX8_statement 44 = .ok (.putfield 81, 3) := by decide +kernel
theorem dX8_statement_47 : decode cX8_statement 47 = .ok (.aload_n 0, 1) := by decide +kernel
theorem dX8_statement_48 : decode cX8_statement 48 = .ok (.iload_n 1, 1) := by decide +kernel
theorem dX8_statement_49 : decode cX8_statement 49 = .ok (.iconst 3, 1) := by decide +kernel
theorem dX8_statement_50 : decode cX8_statement 50 = .ok (.aload_n 0, 1) := by decide +kernel
theorem dX8_statement_51 : decode cX8_statement 51 = .ok (.getfield 100, 3) := by decide +kernel
theorem dX8_statement_54 : decode cX8_statement 54 = .ok (.imul, 1) := by decide +kernel
theorem dX8_statement_55 : decode cX8_statement 55 = .ok (.invokevirtual 103, 3) := by decide +kernel
theorem dX8_statement_58 : decode cX8_statement 58 = .ok (.ifCond .eq 12, 3) := by decide +kernel
theorem dX8_statement_61 : decode cX8_statement 61 = .ok (.aload_n 0, 1) := by decide +kernel
theorem dX8_statement_62 : decode cX8_statement 62 = .ok (.invokevirtual 84, 3) := by decide +kernel
theorem dX8_statement_65 : decode cX8_statement 65 = .ok (.bipush 59, 2) := by decide +kernel
theorem dX8_statement_67 : decode cX8_statement 67 = .ok (.if_icmp .eq 5, 3) := by decide +kernel
theorem dX8_statement_70 : decode cX8_statement 70 = .ok (.iconst 0, 1) := by decide +kernel
theorem dX8_statement_71 : decode cX8_statement 71 = .ok (.ireturn, 1) := by decide +kernel
theorem dX8_statement_72 : decode cX8_statement 72 = .ok (.aload_n 0, 1) := by decide +kernel
theorem dX8_statement_73 : decode cX8_statement 73 = .ok (.dup, 1) := by decide +kernel
theorem dX8_statement_74 : decode cX8_statement 74 = .ok (.getfield 81, 3) := by decide +kernel
theorem dX8_statement_77 : decode cX8_statement 77 = .ok (.iconst 1, 1) := by decide +kernel
theorem dX8_statement_78 : decode cX8_statement 78 = .ok (.iadd, 1) := by decide +kernel
theorem dX8_statement_79 : decode cX8_statement 79 = .ok (.putfield 81, 3) := by decide +kernel
theorem dX8_statement_82 : decode cX8_statement 82 = .ok (.iconst 1, 1) := by decide +kernel
theorem dX8_statement_83 : decode cX8_statement 83 = .ok (.ireturn, 1) := by decide +kernel
theorem dX8_comesNew_0 : decode cX8_comesNew 0 = .ok (.iload_n 1, 1) := by decide +kernel
theorem dX8_comesNew_1 : decode cX8_comesNew 1 = .ok (.bipush 115, 2) := by decide +kernel
theorem dX8_comesNew_3 : decode cX8_comesNew 3 = .ok (.if_icmp .ne 63, 3) := by decide +kernel
theorem dX8_comesNew_6 : decode cX8_comesNew 6 = .ok (.aload_n 0, 1) := by decide +kernel
theorem dX8_comesNew_7 : decode cX8_comesNew 7 = .ok (.getfield 40, 3) := by decide +kernel
theorem dX8_comesNew_10 : decode cX8_comesNew 10 = .ok (.iload_n 2, 1) := by decide +kernel
theorem dX8_comesNew_11 : decode cX8_comesNew 11 = .ok (.iaload, 1) := by decide +kernel
theorem dX8_comesNew_12 : decode cX8_comesNew 12 = .ok (.iconst 5, 1) := by decide +kernel
theorem dX8_comesNew_13 : decode cX8_comesNew 13 = .ok (.if_icmp .gt 23, 3) := by decide +kernel
theorem dX8_comesNew_16 : decode cX8_comesNew 16 = .ok (.aload_n 0, 1) := by decide +kernel
theorem dX8_comesNew_17 : decode cX8_comesNew 17 = .ok (.getfield 40, 3) := by decide +kernel
theorem dX8_comesNew_20 : decode cX8_comesNew 20 = .ok (.iload_n 2, 1) := by decide +kernel
theorem dX8_comesNew_21 : decode cX8_comesNew 21 = .ok (.iconst 2, 1) := by decide +kernel
theorem dX8_comesNew_22 : decode cX8_comesNew 22 = .ok (.iadd, 1) := by decide +kernel
theorem dX8_comesNew_23 : decode cX8_comesNew 23 = .ok (.iaload, 1) := by decide +kernel
theorem dX8_comesNew_24 : decode cX8_comesNew 24 = .ok (.ifCond .eq 12, 3) := by decide +kernel
theorem dX8_comesNew_27 : decode cX8_comesNew 27 = .ok (.aload_n 0, 1) := by decide +kernel
theorem dX8_comesNew_28 : decode cX8_comesNew 28 = .ok (.getfield 61, 3) := by decide +kernel
theorem dX8_comesNew_31 : decode cX8_comesNew 31 = .ok (.bipush 8, 2) := by decide +kernel
theorem dX8_comesNew_33 : decode cX8_comesNew 33 = .ok (.if_icmp .ne 5, 3) := by decide +kernel
theorem dX8_comesNew_36 : decode cX8_comesNew 36 = .ok (.iconst 0, 1) := by decide +kernel
theorem dX8_comesNew_37 : decode cX8_comesNew 37 = .ok (.ireturn, 1) := by decide +kernel
theorem dX8_comesNew_38 : decode cX8_comesNew 38 = .ok (.aload_n 0, 1) := by decide +kernel
theorem dX8_comesNew_39 : decode cX8_comesNew 39 = .ok (.aload_n 0, 1) := by decide +kernel
theorem dX8_comesNew_40 : decode cX8_comesNew 40 = .ok (.getfield 40, 3) := by decide +kernel
theorem dX8_comesNew_43 : decode cX8_comesNew 43 = .ok (.iload_n 2, 1) := by decide +kernel
theorem dX8_comesNew_44 : decode cX8_comesNew 44 = .ok (.iaload, 1) := by decide +kernel
theorem dX8_comesNew_45 : decode cX8_comesNew 45 = .ok (.aload_n 0, 1) := by decide +kernel
theorem dX8_comesNew_46 : decode cX8_comesNew 46 = .ok (.getfield 40, 3) := by decide +kernel
theorem dX8_comesNew_49 : decode cX8_comesNew 49 = .ok (.iload_n 2, 1) := by decide +kernel
theorem dX8_comesNew_50 : decode cX8_comesNew 50 = .ok (.iconst 1, 1) := by decide +kernel
theorem dX8_comesNew_51 : decode cX8_comesNew 51 = .ok (.iadd, 1) := by decide +kernel
theorem dX8_comesNew_52 : decode cX8_comesNew 52 = .ok (.iaload, 1) := by decide +kernel
theorem dX8_comesNew_53 : decode cX8_comesNew 53 = .ok (.aload_n 0, 1) := by decide +kernel
theorem dX8_comesNew_54 : decode cX8_comesNew 54 = .ok (.getfield 40, 3) := by decide +kernel
theorem dX8_comesNew_57 : decode cX8_comesNew 57 = .ok (.iload_n 2, 1) := by decide +kernel
theorem dX8_comesNew_58 : decode cX8_comesNew 58 = .ok (.iconst 2, 1) := by decide +kernel
theorem dX8_comesNew_59 : decode cX8_comesNew 59 = .ok (.iadd, 1) := by decide +kernel
theorem dX8_comesNew_60 : decode cX8_comesNew 60 = .ok (.iaload, 1) := by decide +kernel
theorem dX8_comesNew_61 : decode cX8_comesNew 61 = .ok (.invokevirtual 106, 3) := by decide +kernel
theorem dX8_comesNew_64 : decode cX8_comesNew 64 = .ok (.iconst 1, 1) := by decide +kernel
theorem dX8_comesNew_65 : decode cX8_comesNew 65 = .ok (.ireturn, 1) := by decide +kernel
theorem dX8_comesNew_66 : decode cX8_comesNew 66 = .ok (.iload_n 1, 1) := by decide +kernel
theorem dX8_comesNew_67 : decode cX8_comesNew 67 = .ok (.bipush 119, 2) := by decide +kernel
theorem dX8_comesNew_69 : decode cX8_comesNew 69 = .ok (.if_icmp .ne 65, 3) := by decide +kernel
theorem dX8_comesNew_72 : decode cX8_comesNew 72 = .ok (.aload_n 0, 1) := by decide +kernel
theorem dX8_comesNew_73 : decode cX8_comesNew 73 = .ok (.getfield 40, 3) := by decide +kernel
theorem dX8_comesNew_76 : decode cX8_comesNew 76 = .ok (.iload_n 2, 1) := by decide +kernel
theorem dX8_comesNew_77 : decode cX8_comesNew 77 = .ok (.iaload, 1) := by decide +kernel
theorem dX8_comesNew_78 : decode cX8_comesNew 78 = .ok (.ifCond .eq 27, 3) := by decide +kernel
theorem dX8_comesNew_81 : decode cX8_comesNew 81 = .ok (.aload_n 0, 1) := by decide +kernel
theorem dX8_comesNew_82 : decode cX8_comesNew 82 = .ok (.getfield 40, 3) := by decide +kernel
theorem dX8_comesNew_85 : decode cX8_comesNew 85 = .ok (.iload_n 2, 1) := by decide +kernel
theorem dX8_comesNew_86 : decode cX8_comesNew 86 = .ok (.iaload, 1) := by decide +kernel
theorem dX8_comesNew_87 : decode cX8_comesNew 87 = .ok (.iconst 1, 1) := by decide +kernel
theorem dX8_comesNew_88 : decode cX8_comesNew 88 = .ok (.aload_n 0, 1) := by decide +kernel
theorem dX8_comesNew_89 : decode cX8_comesNew 89 = .ok (.getfield 61, 3) := by decide +kernel
theorem dX8_comesNew_92 : decode cX8_comesNew 92 = .ok (.ishl, 1) := by decide +kernel
theorem dX8_comesNew_93 : decode cX8_comesNew 93 = .ok (.if_icmp .ge 12, 3) := by decide +kernel
theorem dX8_comesNew_96 : decode cX8_comesNew 96 = .ok (.aload_n 0, 1) := by decide +kernel
theorem dX8_comesNew_97 : decode cX8_comesNew 97 = .ok (.getfield 64, 3) := by decide +kernel
theorem dX8_comesNew_100 : decode cX8_comesNew 100 = .ok (.bipush 6, 2) := by decide +kernel
theorem dX8_comesNew_102 : decode cX8_comesNew 102 = .ok (.if_icmp .ne 5, 3) := by decide +kernel
theorem dX8_comesNew_105 : decode cX8_comesNew 105 = .ok (.iconst 0, 1) := by decide +kernel
theorem dX8_comesNew_106 : decode cX8_comesNew 106 = .ok (.ireturn, 1) := by decide +kernel
theorem dX8_comesNew_107 : decode cX8_comesNew 107 = .ok (.aload_n 0, 1) := by decide +kernel
theorem dX8_comesNew_108 : decode cX8_comesNew 108 = .ok (.getfield 22, 3) := by decide +kernel
theorem dX8_comesNew_111 : decode cX8_comesNew 111 = .ok (.aload_n 0, 1) := by decide +kernel
theorem dX8_comesNew_112 : decode cX8_comesNew 112 = .ok (.getfield 64, 3) := by decide +kernel
theorem dX8_comesNew_115 : decode cX8_comesNew 115 = .ok (.aload_n 0, 1) := by decide +kernel
theorem dX8_comesNew_116 : decode cX8_comesNew 116 = .ok (.getfield 40, 3) := by decide +kernel
theorem dX8_comesNew_119 : decode cX8_comesNew 119 = .ok (.iload_n 2, 1) := by decide +kernel
theorem dX8_comesNew_120 : decode cX8_comesNew 120 = .ok (.iaload, 1) := by decide +kernel
theorem dX8_comesNew_121 : decode cX8_comesNew 121 = .ok (.iastore, 1) := by decide +kernel
theorem dX8_comesNew_122 : decode cX8_comesNew 122 = .ok (.aload_n 0, 1) := by decide +kernel
theorem dX8_comesNew_123 : decode cX8_comesNew 123 = .ok (.dup, 1) := by decide +kernel
theorem dX8_comesNew_124 : decode cX8_comesNew 124 = .ok (.getfield 64, 3) := by decide +kernel
theorem dX8_comesNew_127 : decode cX8_comesNew 127 = .ok (.iconst 1, 1) := by decide +kernel
theorem dX8_comesNew_128 : decode cX8_comesNew 128 = .ok (.iadd, 1) := by decide +kernel
theorem dX8_comesNew_129 : decode cX8_comesNew 129 = .ok (.putfield 64, 3) := by decide +kernel
theorem dX8_comesNew_132 : decode cX8_comesNew 132 = .ok (.iconst 1, 1) := by decide +kernel
theorem dX8_comesNew_133 : decode cX8_comesNew 133 = .ok (.ireturn, 1) := by decide +kernel
theorem dX8_comesNew_134 : decode cX8_comesNew 134 = .ok (.aload_n 0, 1) := by decide +kernel
theorem dX8_comesNew_135 : decode cX8_comesNew 135 = .ok (.getfield 67, 3) := by decide +kernel
theorem dX8_comesNew_138 : decode cX8_comesNew 138 = .ok (.iconst 5, 1) := by decide +kernel
theorem dX8_comesNew_139 : decode cX8_comesNew 139 = .ok (.if_icmp .ne 5, 3) := by decide +kernel
theorem dX8_comesNew_142 : decode cX8_comesNew 142 = .ok (.iconst 0, 1) := by decide +kernel
theorem dX8_comesNew_143 : decode cX8_comesNew 143 = .ok (.ireturn, 1) := by decide +kernel
theorem dX8_comesNew_144 : decode cX8_comesNew 144 = .ok (.aload_n 0, 1) := by decide +kernel
theorem dX8_comesNew_145 : decode cX8_comesNew 145 = .ok (.aload_n 0, 1) := by decide +kernel
theorem dX8_comesNew_146 : decode cX8_comesNew 146 = .ok (.getfield 40, 3) := by decide +kernel
theorem dX8_comesNew_149 : decode cX8_comesNew 149 = .ok (.iload_n 2, 1) := by decide +kernel
theorem dX8_comesNew_150 : decode cX8_comesNew 150 = .ok (.iaload, 1) := by decide +kernel
theorem dX8_comesNew_151 : decode cX8_comesNew 151 = .ok (.invokevirtual 110, 3) := by decide +kernel
theorem dX8_comesNew_154 : decode cX8_comesNew 154 = .ok (.iconst 1, 1) := by decide +kernel
theorem dX8_comesNew_155 : decode cX8_comesNew 155 = .ok (.ireturn, 1) := by decide +kernel
theorem dX8_comesOne_0 : decode cX8_comesOne 0 = .ok (.aload_n 0, 1) := by decide +kernel
theorem dX8_comesOne_1 : decode cX8_comesOne 1 = .ok (.iload_n 2, 1) := by decide +kernel
theorem dX8_comesOne_2 : decode cX8_comesOne 2 = .ok (.invokevirtual 114, 3) := by decide +kernel
theorem dX8_comesOne_5 : decode cX8_comesOne 5 = .ok (.ifCond .eq 28, 3) := by decide +kernel
theorem dX8_comesOne_8 : decode cX8_comesOne 8 = .ok (.iload_n 1, 1) := by decide +kernel
theorem dX8_comesOne_9 : decode cX8_comesOne 9 = .ok (.bipush 107, 2) := by decide +kernel
theorem dX8_comesOne_11 : decode cX8_comesOne 11 = .ok (.if_icmp .ne 14, 3) := by decide +kernel
theorem dX8_comesOne_14 : decode cX8_comesOne 14 = .ok (.aload_n 0, 1) := by decide +kernel
theorem dX8_comesOne_15 : decode cX8_comesOne 15 = .ok (.iload_n 3, 1) := by decide +kernel
theorem dX8_comesOne_16 : decode cX8_comesOne 16 = .ok (.invokevirtual 117, 3) := by decide +kernel
theorem dX8_comesOne_19 : decode cX8_comesOne 19 = .ok (.ifCond .ne 16, 3) := by decide +kernel
theorem dX8_comesOne_22 : decode cX8_comesOne 22 = .ok (.goto 11, 3) := by decide +kernel
theorem dX8_comesOne_25 : decode cX8_comesOne 25 = .ok (.aload_n 0, 1) := by decide +kernel
theorem dX8_comesOne_26 : decode cX8_comesOne 26 = .ok (.iload_n 3, 1) := by decide +kernel
theorem dX8_comesOne_27 : decode cX8_comesOne 27 = .ok (.invokevirtual 120, 3) := by decide +kernel
theorem dX8_comesOne_30 : decode cX8_comesOne 30 = .ok (.ifCond .ne 5, 3) := by decide +kernel
theorem dX8_comesOne_33 : decode cX8_comesOne 33 = .ok (.iconst 0, 1) := by decide +kernel
theorem dX8_comesOne_34 : decode cX8_comesOne 34 = .ok (.ireturn, 1) := by decide +kernel
theorem dX8_comesOne_35 : decode cX8_comesOne 35 = .ok (.iload_n 1, 1) := by decide +kernel
theorem dX8_comesOne_36 : decode cX8_comesOne 36 = .ok (.bipush 107, 2) := by decide +kernel
theorem dX8_comesOne_38 : decode cX8_comesOne 38 = .ok (.if_icmp .ne 18, 3) := by decide +kernel
theorem dX8_comesOne_41 : decode cX8_comesOne 41 = .ok (.aload_n 0, 1) := by decide +kernel
theorem dX8_comesOne_42 : decode cX8_comesOne 42 = .ok (.getfield 28, 3) := by decide +kernel
theorem dX8_comesOne_45 : decode cX8_comesOne 45 = .ok (.iload_n 2, 1) := by decide +kernel
theorem dX8_comesOne_46 : decode cX8_comesOne 46 = .ok (.dup2, 1) := by decide +kernel
theorem dX8_comesOne_47 : decode cX8_comesOne 47 = .ok (.iaload, 1) := by decide +kernel
theorem dX8_comesOne_48 : decode cX8_comesOne 48 = .ok (.iconst 1, 1) := by decide +kernel
theorem dX8_comesOne_49 : decode cX8_comesOne 49 = .ok (.iload_n 3, 1) := by decide +kernel
theorem dX8_comesOne_50 : decode cX8_comesOne 50 = .ok (.ishl, 1) := by decide +kernel
theorem dX8_comesOne_51 : decode cX8_comesOne 51 = .ok (.ixor, 1) := by decide +kernel
theorem dX8_comesOne_52 : decode cX8_comesOne 52 = .ok (.iastore, 1) := by decide +kernel
theorem dX8_comesOne_53 : decode cX8_comesOne 53 = .ok (.goto 18, 3) := by decide +kernel
theorem dX8_comesOne_56 : decode cX8_comesOne 56 = .ok (.aload_n 0, 1) := by decide +kernel
theorem dX8_comesOne_57 : decode cX8_comesOne 57 = .ok (.getfield 28, 3) := by decide +kernel
theorem dX8_comesOne_60 : decode cX8_comesOne 60 = .ok (.iload_n 2, 1) := by decide +kernel
theorem dX8_comesOne_61 : decode cX8_comesOne 61 = .ok (.dup2, 1) := by decide +kernel
theorem dX8_comesOne_62 : decode cX8_comesOne 62 = .ok (.iaload, 1) := by decide +kernel
theorem dX8_comesOne_63 : decode cX8_comesOne 63 = .ok (.aload_n 0, 1) := by decide +kernel
theorem dX8_comesOne_64 : decode cX8_comesOne 64 = .ok (.getfield 22, 3) := by decide +kernel
theorem dX8_comesOne_67 : decode cX8_comesOne 67 = .ok (.iload_n 3, 1) := by decide +kernel
theorem dX8_comesOne_68 : decode cX8_comesOne 68 = .ok (.iaload, 1) := by decide +kernel
theorem dX8_comesOne_69 : decode cX8_comesOne 69 = .ok (.ior, 1) := by decide +kernel
theorem dX8_comesOne_70 : decode cX8_comesOne 70 = .ok (.iastore, 1) := by decide +kernel
theorem dX8_comesOne_71 : decode cX8_comesOne 71 = .ok (.iconst 1, 1) := by decide +kernel
theorem dX8_comesOne_72 : decode cX8_comesOne 72 = .ok (.ireturn, 1) := by decide +kernel
theorem dX8_comes_0 : decode cX8_comes 0 = .ok (.iconst 3, 1) := by decide +kernel
theorem dX8_comes_1 : decode cX8_comes 1 = .ok (.iload_n 1, 1) := by decide +kernel
theorem dX8_comes_2 : decode cX8_comes 2 = .ok (.imul, 1) := by decide +kernel
theorem dX8_comes_3 : decode cX8_comes 3 = .ok (.istore_n 2, 1) := by decide +kernel
theorem dX8_comes_4 : decode cX8_comes 4 = .ok (.aload_n 0, 1) := by decide +kernel
theorem dX8_comes_5 : decode cX8_comes 5 = .ok (.getfield 34, 3) := by decide +kernel
theorem dX8_comes_8 : decode cX8_comes 8 = .ok (.iload_n 1, 1) := by decide +kernel
theorem dX8_comes_9 : decode cX8_comes 9 = .ok (.iaload, 1) := by decide +kernel
theorem dX8_comes_10 : decode cX8_comes 10 = .ok (.lookupswitch 123 #[(100, 105), (104, 75), (107, 50), (109, 93), (116, 50)], 50) := by decide +kernel
theorem dX8_comes_60 : decode cX8_comes 60 = .ok (.aload_n 0, 1) := by decide +kernel
theorem dX8_comes_61 : decode cX8_comes 61 = .ok (.aload_n 0, 1) := by decide +kernel
theorem dX8_comes_62 : decode cX8_comes 62 = .ok (.getfield 34, 3) := by decide +kernel
theorem dX8_comes_65 : decode cX8_comes 65 = .ok (.iload_n 1, 1) := by decide +kernel
theorem dX8_comes_66 : decode cX8_comes 66 = .ok (.iaload, 1) := by decide +kernel
theorem dX8_comes_67 : decode cX8_comes 67 = .ok (.aload_n 0, 1) := by decide +kernel
theorem dX8_comes_68 : decode cX8_comes 68 = .ok (.getfield 40, 3) := by decide +kernel
theorem dX8_comes_71 : decode cX8_comes 71 = .ok (.iload_n 2, 1) := by decide +kernel
theorem dX8_comes_72 : decode cX8_comes 72 = .ok (.iaload, 1) := by decide +kernel
theorem dX8_comes_73 : decode cX8_comes 73 = .ok (.aload_n 0, 1) := by decide +kernel
theorem dX8_comes_74 : decode cX8_comes 74 = .ok (.getfield 40, 3) := by decide +kernel
theorem dX8_comes_77 : decode cX8_comes 77 = .ok (.iload_n 2, 1) := by decide +kernel
theorem dX8_comes_78 : decode cX8_comes 78 = .ok (.iconst 1, 1) := by decide +kernel
theorem dX8_comes_79 : decode cX8_comes 79 = .ok (.iadd, 1) := by decide +kernel
theorem dX8_comes_80 : decode cX8_comes 80 = .ok (.iaload, 1) := by decide +kernel
theorem dX8_comes_81 : decode cX8_comes 81 = .ok (.invokevirtual 123, 3) := by decide +kernel
theorem dX8_comes_84 : decode cX8_comes 84 = .ok (.ireturn, 1) := by decide +kernel
theorem dX8_comes_85 : decode cX8_comes 85 = .ok (.aload_n 0, 1) := by decide +kernel
theorem dX8_comes_86 : decode cX8_comes 86 = .ok (.aload_n 0, 1) := by decide +kernel
theorem dX8_comes_87 : decode cX8_comes 87 = .ok (.getfield 40, 3) := by decide +kernel
theorem dX8_comes_90 : decode cX8_comes 90 = .ok (.iload_n 2, 1) := by decide +kernel
theorem dX8_comes_91 : decode cX8_comes 91 = .ok (.iaload, 1) := by decide +kernel
theorem dX8_comes_92 : decode cX8_comes 92 = .ok (.putfield 52, 3) := by decide +kernel
theorem dX8_comes_95 : decode cX8_comes 95 = .ok (.aload_n 0, 1) := by decide +kernel
theorem dX8_comes_96 : decode cX8_comes 96 = .ok (.getfield 52, 3) := by decide +kernel
theorem dX8_comes_99 : decode cX8_comes 99 = .ok (.invokestatic 126, 3) := by decide +kernel
theorem dX8_comes_102 : decode cX8_comes 102 = .ok (.ireturn, 1) := by decide +kernel
theorem dX8_comes_103 : decode cX8_comes 103 = .ok (.aload_n 0, 1) := by decide +kernel
theorem dX8_comes_104 : decode cX8_comes 104 = .ok (.aload_n 0, 1) := by decide +kernel
theorem dX8_comes_105 : decode cX8_comes 105 = .ok (.getfield 40, 3) := by decide +kernel
theorem dX8_comes_108 : decode cX8_comes 108 = .ok (.iload_n 2, 1) := by decide +kernel
theorem dX8_comes_109 : decode cX8_comes 109 = .ok (.iaload, 1) := by decide +kernel
theorem dX8_comes_110 : decode cX8_comes 110 = .ok (.putfield 56, 3) := by decide +kernel
theorem dX8_comes_113 : decode cX8_comes 113 = .ok (.iconst 1, 1) := by decide +kernel
theorem dX8_comes_114 : decode cX8_comes 114 = .ok (.ireturn, 1) := by decide +kernel
theorem dX8_comes_115 : decode cX8_comes 115 = .ok (.aload_n 0, 1) := by decide +kernel
theorem dX8_comes_116 : decode cX8_comes 116 = .ok (.getfield 129, 3) := by decide +kernel
theorem dX8_comes_119 : decode cX8_comes 119 = .ok (.sipush 999, 3) := by decide +kernel
theorem dX8_comes_122 : decode cX8_comes 122 = .ok (.if_icmp .ne 5, 3) := by decide +kernel
theorem dX8_comes_125 : decode cX8_comes 125 = .ok (.iconst 0, 1) := by decide +kernel
theorem dX8_comes_126 : decode cX8_comes 126 = .ok (.ireturn, 1) := by decide +kernel
theorem dX8_comes_127 : decode cX8_comes 127 = .ok (.aload_n 0, 1) := by decide +kernel
theorem dX8_comes_128 : decode cX8_comes 128 = .ok (.invokevirtual 132, 3) := by decide +kernel
theorem dX8_comes_131 : decode cX8_comes 131 = .ok (.iconst 1, 1) := by decide +kernel
theorem dX8_comes_132 : decode cX8_comes 132 = .ok (.ireturn, 1) := by decide +kernel
theorem dX8_comes_133 : decode cX8_comes 133 = .ok (.aload_n 0, 1) := by decide +kernel
theorem dX8_comes_134 : decode cX8_comes 134 = .ok (.aload_n 0, 1) := by decide +kernel
theorem dX8_comes_135 : decode cX8_comes 135 = .ok (.getfield 34, 3) := by decide +kernel
theorem dX8_comes_138 : decode cX8_comes 138 = .ok (.iload_n 1, 1) := by decide +kernel
theorem dX8_comes_139 : decode cX8_comes 139 = .ok (.iaload, 1) := by decide +kernel
theorem dX8_comes_140 : decode cX8_comes 140 = .ok (.iload_n 2, 1) := by decide +kernel
theorem dX8_comes_141 : decode cX8_comes 141 = .ok (.invokevirtual 135, 3) := by decide +kernel
theorem dX8_comes_144 : decode cX8_comes 144 = .ok (.ireturn, 1) := by decide +kernel
theorem dX8_town_0 : decode cX8_town 0 = .ok (.aload_n 0, 1) := by decide +kernel
theorem dX8_town_1 : decode cX8_town 1 = .ok (.iconst 0, 1) := by decide +kernel
theorem dX8_town_2 : decode cX8_town 2 = .ok (.putfield 81, 3) := by decide +kernel
theorem dX8_town_5 : decode cX8_town 5 = .ok (.aload_n 0, 1) := by decide +kernel
theorem dX8_town_6 : decode cX8_town 6 = .ok (.iconst 0, 1) := by decide +kernel
theorem dX8_town_7 : decode cX8_town 7 = .ok (.putfield 100, 3) := by decide +kernel
theorem dX8_town_10 : decode cX8_town 10 = .ok (.iconst 1, 1) := by decide +kernel
theorem dX8_town_11 : decode cX8_town 11 = .ok (.istore_n 1, 1) := by decide +kernel
theorem dX8_town_12 : decode cX8_town 12 = .ok (.iload_n 1, 1) := by decide +kernel
theorem dX8_town_13 : decode cX8_town 13 = .ok (.ifCond .eq 47, 3) := by decide +kernel
theorem dX8_town_16 : decode cX8_town 16 = .ok (.aload_n 0, 1) := by decide +kernel
theorem dX8_town_17 : decode cX8_town 17 = .ok (.getfield 81, 3) := by decide +kernel
theorem dX8_town_20 : decode cX8_town 20 = .ok (.aload_n 0, 1) := by decide +kernel
theorem dX8_town_21 : decode cX8_town 21 = .ok (.getfield 74, 3) := by decide +kernel
theorem dX8_town_24 : decode cX8_town 24 = .ok (.if_icmp .lt 10, 3) := by decide +kernel
theorem dX8_town_27 : decode cX8_town 27 = .ok (.aload_n 0, 1) := by decide +kernel
theorem dX8_town_28 : decode cX8_town 28 = .ok (.getfield 100, 3) := by decide +kernel
theorem dX8_town_31 : decode cX8_town 31 = .ok (.ifCond .ne 29, 3) := by decide +kernel
theorem dX8_town_34 : decode cX8_town 34 = .ok (.aload_n 0, 1) := by decide +kernel
theorem dX8_town_35 : decode cX8_town 35 = .ok (.invokevirtual 138, 3) := by decide +kernel
theorem dX8_town_38 : decode cX8_town 38 = .ok (.istore_n 1, 1) := by decide +kernel
theorem dX8_town_39 : decode cX8_town 39 = .ok (.aload_n 0, 1) := by decide +kernel
theorem dX8_town_40 : decode cX8_town 40 = .ok (.dup, 1) := by decide +kernel
theorem dX8_town_41 : decode cX8_town 41 = .ok (.getfield 100, 3) := by decide +kernel
theorem dX8_town_44 : decode cX8_town 44 = .ok (.iload_n 1, 1) := by decide +kernel
theorem dX8_town_45 : decode cX8_town 45 = .ok (.ifCond .eq 7, 3) := by decide +kernel
theorem dX8_town_48 : decode cX8_town 48 = .ok (.iconst 1, 1) := by decide +kernel
theorem dX8_town_49 : decode cX8_town 49 = .ok (.goto 4, 3) := by decide +kernel
theorem dX8_town_52 : decode cX8_town 52 = .ok (.iconst 0, 1) := by decide +kernel
theorem dX8_town_53 : decode cX8_town 53 = .ok (.iadd, 1) := by decide +kernel
theorem dX8_town_54 : decode cX8_town 54 = .ok (.putfield 100, 3) := by decide +kernel
theorem dX8_town_57 : decode cX8_town 57 = .ok (.goto (-45), 3) := by decide +kernel
theorem dX8_town_60 : decode cX8_town 60 = .ok (.aload_n 0, 1) := by decide +kernel
theorem dX8_town_61 : decode cX8_town 61 = .ok (.iconst 0, 1) := by decide +kernel
theorem dX8_town_62 : decode cX8_town 62 = .ok (.putfield 74, 3) := by decide +kernel
theorem dX8_town_65 : decode cX8_town 65 = .ok (.iload_n 1, 1) := by decide +kernel
theorem dX8_town_66 : decode cX8_town 66 = .ok (.ifCond .ne 12, 3) := by decide +kernel
theorem dX8_town_69 : decode cX8_town 69 = .ok (.sipush (-1000), 3) := by decide +kernel
theorem dX8_town_72 : decode cX8_town 72 = .ok (.aload_n 0, 1) := by decide +kernel
theorem dX8_town_73 : decode cX8_town 73 = .ok (.getfield 81, 3) := by decide +kernel
theorem dX8_town_76 : decode cX8_town 76 = .ok (.isub, 1) := by decide +kernel
theorem dX8_town_77 : decode cX8_town 77 = .ok (.ireturn, 1) := by decide +kernel
theorem dX8_town_78 : decode cX8_town 78 = .ok (.aload_n 0, 1) := by decide +kernel
theorem dX8_town_79 : decode cX8_town 79 = .ok (.iconst 1, 1) := by decide +kernel
theorem dX8_town_80 : decode cX8_town 80 = .ok (.iconst 1, 1) := by decide +kernel
theorem dX8_town_81 : decode cX8_town 81 = .ok (.invokevirtual 142, 3) := by decide +kernel
theorem dX8_town_84 : decode cX8_town 84 = .ok (.iconst 0, 1) := by decide +kernel
theorem dX8_town_85 : decode cX8_town 85 = .ok (.istore_n 2, 1) := by decide +kernel
theorem dX8_town_86 : decode cX8_town 86 = .ok (.iload_n 2, 1) := by decide +kernel
theorem dX8_town_87 : decode cX8_town 87 = .ok (.aload_n 0, 1) := by decide +kernel
theorem dX8_town_88 : decode cX8_town 88 = .ok (.getfield 100, 3) := by decide +kernel
theorem dX8_town_91 : decode cX8_town 91 = .ok (.if_icmp .ge 37, 3) := by decide +kernel
theorem dX8_town_94 : decode cX8_town 94 = .ok (.aload_n 0, 1) := by decide +kernel
theorem dX8_town_95 : decode cX8_town 95 = .ok (.iload_n 2, 1) := by decide +kernel
theorem dX8_town_96 : decode cX8_town 96 = .ok (.invokevirtual 146, 3) := by decide +kernel
theorem dX8_town_99 : decode cX8_town 99 = .ok (.ifCond .eq 6, 3) := by decide +kernel
theorem dX8_town_102 : decode cX8_town 102 = .ok (.goto 20, 3) := by decide +kernel
theorem dX8_town_105 : decode cX8_town 105 = .ok (.aload_n 0, 1) := by decide +kernel
theorem dX8_town_106 : decode cX8_town 106 = .ok (.iconst 1, 1) := by decide +kernel
theorem dX8_town_107 : decode cX8_town 107 = .ok (.iconst 0, 1) := by decide +kernel
theorem dX8_town_108 : decode cX8_town 108 = .ok (.invokevirtual 142, 3) := by decide +kernel
theorem dX8_town_111 : decode cX8_town 111 = .ok (.sipush (-2000), 3) := by decide +kernel
theorem dX8_town_114 : decode cX8_town 114 = .ok (.aload_n 0, 1) := by decide +kernel
theorem dX8_town_115 : decode cX8_town 115 = .ok (.getfield 37, 3) := by decide +kernel
theorem dX8_town_118 : decode cX8_town 118 = .ok (.iload_n 2, 1) := by decide +kernel
theorem dX8_town_119 : decode cX8_town 119 = .ok (.iaload, 1) := by decide +kernel
theorem dX8_town_120 : decode cX8_town 120 = .ok (.isub, 1) := by decide +kernel
theorem dX8_town_121 : decode cX8_town 121 = .ok (.ireturn, 1) := by decide +kernel
theorem dX8_town_122 : decode cX8_town 122 = .ok (.iinc 2 1, 3) := by decide +kernel
theorem dX8_town_125 : decode cX8_town 125 = .ok (.goto (-39), 3) := by decide +kernel
theorem dX8_town_128 : decode cX8_town 128 = .ok (.aload_n 0, 1) := by decide +kernel
theorem dX8_town_129 : decode cX8_town 129 = .ok (.iconst 0, 1) := by decide +kernel
theorem dX8_town_130 : decode cX8_town 130 = .ok (.putfield 149, 3) := by decide +kernel
theorem dX8_town_133 : decode cX8_town 133 = .ok (.aload_n 0, 1) := by decide +kernel
theorem dX8_town_134 : decode cX8_town 134 = .ok (.getfield 100, 3) := by decide +kernel
theorem dX8_town_137 : decode cX8_town 137 = .ok (.ireturn, 1) := by decide +kernel
theorem dX8_passes_0 : decode cX8_passes 0 = .ok (.iconst 0, 1) := by decide +kernel
theorem dX8_passes_1 : decode cX8_passes 1 = .ok (.istore_n 2, 1) := by decide +kernel
theorem dX8_passes_2 : decode cX8_passes 2 = .ok (.iload_n 2, 1) := by decide +kernel
theorem dX8_passes_3 : decode cX8_passes 3 = .ok (.aload_n 1, 1) := by decide +kernel
theorem dX8_passes_4 : decode cX8_passes 4 = .ok (.arraylength, 1) := by decide +kernel
theorem dX8_passes_5 : decode cX8_passes 5 = .ok (.if_icmp .ge 53, 3) := by decide +kernel
theorem dX8_passes_8 : decode cX8_passes 8 = .ok (.aload_n 0, 1) := by decide +kernel
theorem dX8_passes_9 : decode cX8_passes 9 = .ok (.getfield 152, 3) := by decide +kernel
theorem dX8_passes_12 : decode cX8_passes 12 = .ok (.ifCond .eq 18, 3) := by decide +kernel
theorem dX8_passes_15 : decode cX8_passes 15 = .ok (.aload_n 0, 1) := by decide +kernel
theorem dX8_passes_16 : decode cX8_passes 16 = .ok (.getfield 43, 3) := by decide +kernel
theorem dX8_passes_19 : decode cX8_passes 19 = .ok (.aload_n 0, 1) := by decide +kernel
theorem dX8_passes_20 : decode cX8_passes 20 = .ok (.getfield 156, 3) := by decide +kernel
theorem dX8_passes_23 : decode cX8_passes 23 = .ok (.aload_n 1, 1) := by decide +kernel
theorem dX8_passes_24 : decode cX8_passes 24 = .ok (.iload_n 2, 1) := by decide +kernel
theorem dX8_passes_25 : decode cX8_passes 25 = .ok (.iaload, 1) := by decide +kernel
theorem dX8_passes_26 : decode cX8_passes 26 = .ok (.iastore, 1) := by decide +kernel
theorem dX8_passes_27 : decode cX8_passes 27 = .ok (.goto 15, 3) := by decide +kernel
theorem dX8_passes_30 : decode cX8_passes 30 = .ok (.aload_n 1, 1) := by decide +kernel
theorem dX8_passes_31 : decode cX8_passes 31 = .ok (.iload_n 2, 1) := by decide +kernel
theorem dX8_passes_32 : decode cX8_passes 32 = .ok (.aload_n 0, 1) := by decide +kernel
theorem dX8_passes_33 : decode cX8_passes 33 = .ok (.getfield 43, 3) := by decide +kernel
theorem dX8_passes_36 : decode cX8_passes 36 = .ok (.aload_n 0, 1) := by decide +kernel
theorem dX8_passes_37 : decode cX8_passes 37 = .ok (.getfield 156, 3) := by decide +kernel
theorem dX8_passes_40 : decode cX8_passes 40 = .ok (.iaload, 1) := by decide +kernel
theorem dX8_passes_41 : decode cX8_passes 41 = .ok (.iastore, 1) := by decide +kernel
theorem dX8_passes_42 : decode cX8_passes 42 = .ok (.aload_n 0, 1) := by decide +kernel
theorem dX8_passes_43 : decode cX8_passes 43 = .ok (.dup, 1) := by decide +kernel
theorem dX8_passes_44 : decode cX8_passes 44 = .ok (.getfield 156, 3) := by decide +kernel
theorem dX8_passes_47 : decode cX8_passes 47 = .ok (.iconst 1, 1) := by decide +kernel
theorem dX8_passes_48 : decode cX8_passes 48 = .ok (.iadd, 1) := by decide +kernel
theorem dX8_passes_49 : decode cX8_passes 49 = .ok (.putfield 156, 3) := by decide +kernel
theorem dX8_passes_52 : decode cX8_passes 52 = .ok (.iinc 2 1, 3) := by decide +kernel
theorem dX8_passes_55 : decode cX8_passes 55 = .ok (.goto (-53), 3) := by decide +kernel
theorem dX8_passes_58 : decode cX8_passes 58 = .ok (.return_, 1) := by decide +kernel
theorem dX8_passOne_0 : decode cX8_passOne 0 = .ok (.aload_n 0, 1) := by decide +kernel
theorem dX8_passOne_1 : decode cX8_passOne 1 = .ok (.getfield 152, 3) := by decide +kernel
theorem dX8_passOne_4 : decode cX8_passOne 4 = .ok (.ifCond .eq 7, 3) := by decide +kernel
theorem dX8_passOne_7 : decode cX8_passOne 7 = .ok (.iload_n 1, 1) := by decide +kernel
theorem dX8_passOne_8 : decode cX8_passOne 8 = .ok (.goto 12, 3) := by decide +kernel
theorem dX8_passOne_11 : decode cX8_passOne 11 = .ok (.aload_n 0, 1) := by decide +kernel
theorem dX8_passOne_12 : decode cX8_passOne 12 = .ok (.getfield 43, 3) := by decide +kernel
theorem dX8_passOne_15 : decode cX8_passOne 15 = .ok (.aload_n 0, 1) := by decide +kernel
theorem dX8_passOne_16 : decode cX8_passOne 16 = .ok (.getfield 156, 3) := by decide +kernel
theorem dX8_passOne_19 : decode cX8_passOne 19 = .ok (.iaload, 1) := by decide +kernel
theorem dX8_passOne_20 : decode cX8_passOne 20 = .ok (.istore_n 2, 1) := by decide +kernel
theorem dX8_passOne_21 : decode cX8_passOne 21 = .ok (.aload_n 0, 1) := by decide +kernel
theorem dX8_passOne_22 : decode cX8_passOne 22 = .ok (.getfield 152, 3) := by decide +kernel
theorem dX8_passOne_25 : decode cX8_passOne 25 = .ok (.ifCond .eq 13, 3) := by decide +kernel
theorem dX8_passOne_28 : decode cX8_passOne 28 = .ok (.aload_n 0, 1) := by decide +kernel
theorem dX8_passOne_29 : decode cX8_passOne 29 = .ok (.getfield 43, 3) := by decide +kernel
theorem dX8_passOne_32 : decode cX8_passOne 32 = .ok (.aload_n 0, 1) := by decide +kernel
theorem dX8_passOne_33 : decode cX8_passOne 33 = .ok (.getfield 156, 3) := by decide +kernel
theorem dX8_passOne_36 : decode cX8_passOne 36 = .ok (.iload_n 1, 1) := by decide +kernel
theorem dX8_passOne_37 : decode cX8_passOne 37 = .ok (.iastore, 1) := by decide +kernel
theorem dX8_passOne_38 : decode cX8_passOne 38 = .ok (.aload_n 0, 1) := by decide +kernel
theorem dX8_passOne_39 : decode cX8_passOne 39 = .ok (.dup, 1) := by decide +kernel
theorem dX8_passOne_40 : decode cX8_passOne 40 = .ok (.getfield 156, 3) := by decide +kernel
theorem dX8_passOne_43 : decode cX8_passOne 43 = .ok (.iconst 1, 1) := by decide +kernel
theorem dX8_passOne_44 : decode cX8_passOne 44 = .ok (.iadd, 1) := by decide +kernel
theorem dX8_passOne_45 : decode cX8_passOne 45 = .ok (.putfield 156, 3) := by decide +kernel
theorem dX8_passOne_48 : decode cX8_passOne 48 = .ok (.iload_n 2, 1) := by decide +kernel
theorem dX8_passOne_49 : decode cX8_passOne 49 = .ok (.ireturn, 1) := by decide +kernel
theorem dX8_passesAll_0 : decode cX8_passesAll 0 = .ok (.aload_n 0, 1) := by decide +kernel
theorem dX8_passesAll_1 : decode cX8_passesAll 1 = .ok (.bipush 46, 2) := by decide +kernel
theorem dX8_passesAll_3 : decode cX8_passesAll 3 = .ok (.iload_n 1, 1) := by decide +kernel
theorem dX8_passesAll_4 : decode cX8_passesAll 4 = .ok (.imul, 1) := by decide +kernel
theorem dX8_passesAll_5 : decode cX8_passesAll 5 = .ok (.putfield 156, 3) := by decide +kernel
theorem dX8_passesAll_8 : decode cX8_passesAll 8 = .ok (.aload_n 0, 1) := by decide +kernel
theorem dX8_passesAll_9 : decode cX8_passesAll 9 = .ok (.iload_n 2, 1) := by decide +kernel
theorem dX8_passesAll_10 : decode cX8_passesAll 10 = .ok (.putfield 152, 3) := by decide +kernel
theorem dX8_passesAll_13 : decode cX8_passesAll 13 = .ok (.aload_n 0, 1) := by decide +kernel
theorem dX8_passesAll_14 : decode cX8_passesAll 14 = .ok (.aload_n 0, 1) := by decide +kernel
theorem dX8_passesAll_15 : decode cX8_passesAll 15 = .ok (.getfield 13, 3) := by decide +kernel
theorem dX8_passesAll_18 : decode cX8_passesAll 18 = .ok (.invokevirtual 159, 3) := by decide +kernel
theorem dX8_passesAll_21 : decode cX8_passesAll 21 = .ok (.aload_n 0, 1) := by decide +kernel
theorem dX8_passesAll_22 : decode cX8_passesAll 22 = .ok (.aload_n 0, 1) := by decide +kernel
theorem dX8_passesAll_23 : decode cX8_passesAll 23 = .ok (.getfield 16, 3) := by decide +kernel
theorem dX8_passesAll_26 : decode cX8_passesAll 26 = .ok (.invokevirtual 159, 3) := by decide +kernel
theorem dX8_passesAll_29 : decode cX8_passesAll 29 = .ok (.aload_n 0, 1) := by decide +kernel
theorem dX8_passesAll_30 : decode cX8_passesAll 30 = .ok (.aload_n 0, 1) := by decide +kernel
theorem dX8_passesAll_31 : decode cX8_passesAll 31 = .ok (.getfield 19, 3) := by decide +kernel
theorem dX8_passesAll_34 : decode cX8_passesAll 34 = .ok (.invokevirtual 159, 3) := by decide +kernel
theorem dX8_passesAll_37 : decode cX8_passesAll 37 = .ok (.aload_n 0, 1) := by decide +kernel
theorem dX8_passesAll_38 : decode cX8_passesAll 38 = .ok (.aload_n 0, 1) := by decide +kernel
theorem dX8_passesAll_39 : decode cX8_passesAll 39 = .ok (.getfield 22, 3) := by decide +kernel
theorem dX8_passesAll_42 : decode cX8_passesAll 42 = .ok (.invokevirtual 159, 3) := by decide +kernel
theorem dX8_passesAll_45 : decode cX8_passesAll 45 = .ok (.aload_n 0, 1) := by decide +kernel
theorem dX8_passesAll_46 : decode cX8_passesAll 46 = .ok (.aload_n 0, 1) := by decide +kernel
theorem dX8_passesAll_47 : decode cX8_passesAll 47 = .ok (.getfield 25, 3) := by decide +kernel
theorem dX8_passesAll_50 : decode cX8_passesAll 50 = .ok (.invokevirtual 159, 3) := by decide +kernel
theorem dX8_passesAll_53 : decode cX8_passesAll 53 = .ok (.aload_n 0, 1) := by decide +kernel
theorem dX8_passesAll_54 : decode cX8_passesAll 54 = .ok (.aload_n 0, 1) := by decide +kernel
theorem dX8_passesAll_55 : decode cX8_passesAll 55 = .ok (.getfield 28, 3) := by decide +kernel
theorem dX8_passesAll_58 : decode cX8_passesAll 58 = .ok (.invokevirtual 159, 3) := by decide +kernel
theorem dX8_passesAll_61 : decode cX8_passesAll 61 = .ok (.aload_n 0, 1) := by decide +kernel
theorem dX8_passesAll_62 : decode cX8_passesAll 62 = .ok (.aload_n 0, 1) := by decide +kernel
theorem dX8_passesAll_63 : decode cX8_passesAll 63 = .ok (.aload_n 0, 1) := by decide +kernel
theorem dX8_passesAll_64 : decode cX8_passesAll 64 = .ok (.getfield 61, 3) := by decide +kernel
theorem dX8_passesAll_67 : decode cX8_passesAll 67 = .ok (.invokevirtual 163, 3) := by decide +kernel
theorem dX8_passesAll_70 : decode cX8_passesAll 70 = .ok (.putfield 61, 3) := by decide +kernel
theorem dX8_passesAll_73 : decode cX8_passesAll 73 = .ok (.aload_n 0, 1) := by decide +kernel
theorem dX8_passesAll_74 : decode cX8_passesAll 74 = .ok (.aload_n 0, 1) := by decide +kernel
theorem dX8_passesAll_75 : decode cX8_passesAll 75 = .ok (.aload_n 0, 1) := by decide +kernel
theorem dX8_passesAll_76 : decode cX8_passesAll 76 = .ok (.getfield 64, 3) := by decide +kernel
theorem dX8_passesAll_79 : decode cX8_passesAll 79 = .ok (.invokevirtual 163, 3) := by decide +kernel
theorem dX8_passesAll_82 : decode cX8_passesAll 82 = .ok (.putfield 64, 3) := by decide +kernel
theorem dX8_passesAll_85 : decode cX8_passesAll 85 = .ok (.aload_n 0, 1) := by decide +kernel
theorem dX8_passesAll_86 : decode cX8_passesAll 86 = .ok (.aload_n 0, 1) := by decide +kernel
theorem dX8_passesAll_87 : decode cX8_passesAll 87 = .ok (.aload_n 0, 1) := by decide +kernel
theorem dX8_passesAll_88 : decode cX8_passesAll 88 = .ok (.getfield 67, 3) := by decide +kernel
theorem dX8_passesAll_91 : decode cX8_passesAll 91 = .ok (.invokevirtual 163, 3) := by decide +kernel
theorem dX8_passesAll_94 : decode cX8_passesAll 94 = .ok (.putfield 67, 3) := by decide +kernel
theorem dX8_passesAll_97 : decode cX8_passesAll 97 = .ok (.aload_n 0, 1) := by decide +kernel
theorem dX8_passesAll_98 : decode cX8_passesAll 98 = .ok (.aload_n 0, 1) := by decide +kernel
theorem dX8_passesAll_99 : decode cX8_passesAll 99 = .ok (.aload_n 0, 1) := by decide +kernel
theorem dX8_passesAll_100 : decode cX8_passesAll 100 = .ok (.getfield 52, 3) := by decide +kernel
theorem dX8_passesAll_103 : decode cX8_passesAll 103 = .ok (.invokevirtual 163, 3) := by decide +kernel
theorem dX8_passesAll_106 : decode cX8_passesAll 106 = .ok (.putfield 52, 3) := by decide +kernel
theorem dX8_passesAll_109 : decode cX8_passesAll 109 = .ok (.aload_n 0, 1) := by decide +kernel
theorem dX8_passesAll_110 : decode cX8_passesAll 110 = .ok (.aload_n 0, 1) := by decide +kernel
theorem dX8_passesAll_111 : decode cX8_passesAll 111 = .ok (.aload_n 0, 1) := by decide +kernel
theorem dX8_passesAll_112 : decode cX8_passesAll 112 = .ok (.getfield 56, 3) := by decide +kernel
theorem dX8_passesAll_115 : decode cX8_passesAll 115 = .ok (.invokevirtual 163, 3) := by decide +kernel
theorem dX8_passesAll_118 : decode cX8_passesAll 118 = .ok (.putfield 56, 3) := by decide +kernel
theorem dX8_passesAll_121 : decode cX8_passesAll 121 = .ok (.aload_n 0, 1) := by decide +kernel
theorem dX8_passesAll_122 : decode cX8_passesAll 122 = .ok (.aload_n 0, 1) := by decide +kernel
theorem dX8_passesAll_123 : decode cX8_passesAll 123 = .ok (.aload_n 0, 1) := by decide +kernel
theorem dX8_passesAll_124 : decode cX8_passesAll 124 = .ok (.getfield 129, 3) := by decide +kernel
theorem dX8_passesAll_127 : decode cX8_passesAll 127 = .ok (.invokevirtual 163, 3) := by decide +kernel
theorem dX8_passesAll_130 : decode cX8_passesAll 130 = .ok (.putfield 129, 3) := by decide +kernel
theorem dX8_passesAll_133 : decode cX8_passesAll 133 = .ok (.return_, 1) := by decide +kernel
theorem dX8_keepsBack_0 : decode cX8_keepsBack 0 = .ok (.aload_n 0, 1) := by decide +kernel
theorem dX8_keepsBack_1 : decode cX8_keepsBack 1 = .ok (.getfield 149, 3) := by decide +kernel
theorem dX8_keepsBack_4 : decode cX8_keepsBack 4 = .ok (.bipush 8, 2) := by decide +kernel
theorem dX8_keepsBack_6 : decode cX8_keepsBack 6 = .ok (.if_icmp .ne 44, 3) := by decide +kernel
theorem dX8_keepsBack_9 : decode cX8_keepsBack 9 = .ok (.bipush 92, 2) := by decide +kernel
theorem dX8_keepsBack_11 : decode cX8_keepsBack 11 = .ok (.istore_n 1, 1) := by decide +kernel
theorem dX8_keepsBack_12 : decode cX8_keepsBack 12 = .ok (.iload_n 1, 1) := by decide +kernel
theorem dX8_keepsBack_13 : decode cX8_keepsBack 13 = .ok (.sipush 414, 3) := by decide +kernel
theorem dX8_keepsBack_16 : decode cX8_keepsBack 16 = .ok (.if_icmp .ge 24, 3) := by decide +kernel
theorem dX8_keepsBack_19 : decode cX8_keepsBack 19 = .ok (.aload_n 0, 1) := by decide +kernel
theorem dX8_keepsBack_20 : decode cX8_keepsBack 20 = .ok (.getfield 43, 3) := by decide +kernel
theorem dX8_keepsBack_23 : decode cX8_keepsBack 23 = .ok (.iload_n 1, 1) := by decide +kernel
theorem dX8_keepsBack_24 : decode cX8_keepsBack 24 = .ok (.aload_n 0, 1) := by decide +kernel
theorem dX8_keepsBack_25 : decode cX8_keepsBack 25 = .ok (.getfield 43, 3) := by decide +kernel
theorem dX8_keepsBack_28 : decode cX8_keepsBack 28 = .ok (.iload_n 1, 1) := by decide +kernel
theorem dX8_keepsBack_29 : decode cX8_keepsBack 29 = .ok (.bipush 46, 2) := by decide +kernel
theorem dX8_keepsBack_31 : decode cX8_keepsBack 31 = .ok (.iadd, 1) := by decide +kernel
theorem dX8_keepsBack_32 : decode cX8_keepsBack 32 = .ok (.iaload, 1) := by decide +kernel
theorem dX8_keepsBack_33 : decode cX8_keepsBack 33 = .ok (.iastore, 1) := by decide +kernel
theorem dX8_keepsBack_34 : decode cX8_keepsBack 34 = .ok (.iinc 1 1, 3) := by decide +kernel
theorem dX8_keepsBack_37 : decode cX8_keepsBack 37 = .ok (.goto (-25), 3) := by decide +kernel
theorem dX8_keepsBack_40 : decode cX8_keepsBack 40 = .ok (.aload_n 0, 1) := by decide +kernel
theorem dX8_keepsBack_41 : decode cX8_keepsBack 41 = .ok (.dup, 1) := by decide +kernel
theorem dX8_keepsBack_42 : decode cX8_keepsBack 42 = .ok (.getfield 149, 3) := by decide +kernel
theorem dX8_keepsBack_45 : decode cX8_keepsBack 45 = .ok (.iconst 1, 1) := by decide +kernel
theorem dX8_keepsBack_46 : decode cX8_keepsBack 46 = .ok (.isub, 1) := by decide +kernel
theorem dX8_keepsBack_47 : decode cX8_keepsBack 47 = .ok (.putfield 149, 3) := by decide +kernel
theorem dX8_keepsBack_50 : decode cX8_keepsBack 50 = .ok (.aload_n 0, 1) := by decide +kernel
theorem dX8_keepsBack_51 : decode cX8_keepsBack 51 = .ok (.iconst 2, 1) := by decide +kernel
theorem dX8_keepsBack_52 : decode cX8_keepsBack 52 = .ok (.aload_n 0, 1) := by decide +kernel
theorem dX8_keepsBack_53 : decode cX8_keepsBack 53 = .ok (.getfield 149, 3) := by decide +kernel
theorem dX8_keepsBack_56 : decode cX8_keepsBack 56 = .ok (.iadd, 1) := by decide +kernel
theorem dX8_keepsBack_57 : decode cX8_keepsBack 57 = .ok (.iconst 1, 1) := by decide +kernel
theorem dX8_keepsBack_58 : decode cX8_keepsBack 58 = .ok (.invokevirtual 142, 3) := by decide +kernel
theorem dX8_keepsBack_61 : decode cX8_keepsBack 61 = .ok (.aload_n 0, 1) := by decide +kernel
theorem dX8_keepsBack_62 : decode cX8_keepsBack 62 = .ok (.dup, 1) := by decide +kernel
theorem dX8_keepsBack_63 : decode cX8_keepsBack 63 = .ok (.getfield 149, 3) := by decide +kernel
theorem dX8_keepsBack_66 : decode cX8_keepsBack 66 = .ok (.iconst 1, 1) := by decide +kernel
theorem dX8_keepsBack_67 : decode cX8_keepsBack 67 = .ok (.iadd, 1) := by decide +kernel
theorem dX8_keepsBack_68 : decode cX8_keepsBack 68 = .ok (.putfield 149, 3) := by decide +kernel
theorem dX8_keepsBack_71 : decode cX8_keepsBack 71 = .ok (.return_, 1) := by decide +kernel
theorem dX8_back_0 : decode cX8_back 0 = .ok (.aload_n 0, 1) := by decide +kernel
theorem dX8_back_1 : decode cX8_back 1 = .ok (.getfield 149, 3) := by decide +kernel
theorem dX8_back_4 : decode cX8_back 4 = .ok (.ifCond .ne 10, 3) := by decide +kernel
theorem dX8_back_7 : decode cX8_back 7 = .ok (.aload_n 0, 1) := by decide +kernel
theorem dX8_back_8 : decode cX8_back 8 = .ok (.bipush (-3), 2) := by decide +kernel
theorem dX8_back_10 : decode cX8_back 10 = .ok (.invokevirtual 77, 3) := by decide +kernel
theorem dX8_back_13 : decode cX8_back 13 = .ok (.ireturn, 1) := by decide +kernel
theorem dX8_back_14 : decode cX8_back 14 = .ok (.aload_n 0, 1) := by decide +kernel
theorem dX8_back_15 : decode cX8_back 15 = .ok (.dup, 1) := by decide +kernel
theorem dX8_back_16 : decode cX8_back 16 = .ok (.getfield 149, 3) := by decide +kernel
theorem dX8_back_19 : decode cX8_back 19 = .ok (.iconst 1, 1) := by decide +kernel
theorem dX8_back_20 : decode cX8_back 20 = .ok (.isub, 1) := by decide +kernel
theorem dX8_back_21 : decode cX8_back 21 = .ok (.putfield 149, 3) := by decide +kernel
theorem dX8_back_24 : decode cX8_back 24 = .ok (.aload_n 0, 1) := by decide +kernel
theorem dX8_back_25 : decode cX8_back 25 = .ok (.iconst 2, 1) := by decide +kernel
theorem dX8_back_26 : decode cX8_back 26 = .ok (.aload_n 0, 1) := by decide +kernel
theorem dX8_back_27 : decode cX8_back 27 = .ok (.getfield 149, 3) := by decide +kernel
theorem dX8_back_30 : decode cX8_back 30 = .ok (.iadd, 1) := by decide +kernel
theorem dX8_back_31 : decode cX8_back 31 = .ok (.iconst 0, 1) := by decide +kernel
theorem dX8_back_32 : decode cX8_back 32 = .ok (.invokevirtual 142, 3) := by decide +kernel
theorem dX8_back_35 : decode cX8_back 35 = .ok (.aload_n 0, 1) := by decide +kernel
theorem dX8_back_36 : decode cX8_back 36 = .ok (.getfield 149, 3) := by decide +kernel
theorem dX8_back_39 : decode cX8_back 39 = .ok (.ireturn, 1) := by decide +kernel
theorem dX8_image_0 : decode cX8_image 0 = .ok (.aload_n 0, 1) := by decide +kernel
theorem dX8_image_1 : decode cX8_image 1 = .ok (.iconst 1, 1) := by decide +kernel
theorem dX8_image_2 : decode cX8_image 2 = .ok (.putfield 166, 3) := by decide +kernel
theorem dX8_image_5 : decode cX8_image 5 = .ok (.aload_n 0, 1) := by decide +kernel
theorem dX8_image_6 : decode cX8_image 6 = .ok (.iconst 0, 1) := by decide +kernel
theorem dX8_image_7 : decode cX8_image 7 = .ok (.iconst 1, 1) := by decide +kernel
theorem dX8_image_8 : decode cX8_image 8 = .ok (.invokevirtual 142, 3) := by decide +kernel
theorem dX8_image_11 : decode cX8_image 11 = .ok (.aload_n 0, 1) := by decide +kernel
theorem dX8_image_12 : decode cX8_image 12 = .ok (.getfield 129, 3) := by decide +kernel
theorem dX8_image_15 : decode cX8_image 15 = .ok (.ireturn, 1) := by decide +kernel
theorem dX8_restore_0 : decode cX8_restore 0 = .ok (.aload_n 0, 1) := by decide +kernel
theorem dX8_restore_1 : decode cX8_restore 1 = .ok (.getfield 166, 3) := by decide +kernel
theorem dX8_restore_4 : decode cX8_restore 4 = .ok (.ifCond .ne 10, 3) := by decide +kernel
theorem dX8_restore_7 : decode cX8_restore 7 = .ok (.aload_n 0, 1) := by decide +kernel
theorem dX8_restore_8 : decode cX8_restore 8 = .ok (.bipush (-3), 2) := by decide +kernel
theorem dX8_restore_10 : decode cX8_restore 10 = .ok (.invokevirtual 77, 3) := by decide +kernel
theorem dX8_restore_13 : decode cX8_restore 13 = .ok (.ireturn, 1) := by decide +kernel
theorem dX8_restore_14 : decode cX8_restore 14 = .ok (.aload_n 0, 1) := by decide +kernel
theorem dX8_restore_15 : decode cX8_restore 15 = .ok (.iconst 0, 1) := by decide +kernel
theorem dX8_restore_16 : decode cX8_restore 16 = .ok (.iconst 0, 1) := by decide +kernel
theorem dX8_restore_17 : decode cX8_restore 17 = .ok (.invokevirtual 142, 3) := by decide +kernel
theorem dX8_restore_20 : decode cX8_restore 20 = .ok (.aload_n 0, 1) := by decide +kernel
theorem dX8_restore_21 : decode cX8_restore 21 = .ok (.iconst 0, 1) := by decide +kernel
theorem dX8_restore_22 : decode cX8_restore 22 = .ok (.putfield 149, 3) := by decide +kernel
theorem dX8_restore_25 : decode cX8_restore 25 = .ok (.aload_n 0, 1) := by decide +kernel
theorem dX8_restore_26 : decode cX8_restore 26 = .ok (.getfield 129, 3) := by decide +kernel
theorem dX8_restore_29 : decode cX8_restore 29 = .ok (.ireturn, 1) := by decide +kernel
theorem dX8_addsStreet_0 : decode cX8_addsStreet 0 = .ok (.aload_n 0, 1) := by decide +kernel
theorem dX8_addsStreet_1 : decode cX8_addsStreet 1 = .ok (.getfield 13, 3) := by decide +kernel
theorem dX8_addsStreet_4 : decode cX8_addsStreet 4 = .ok (.aload_n 0, 1) := by decide +kernel
theorem dX8_addsStreet_5 : decode cX8_addsStreet 5 = .ok (.getfield 61, 3) := by decide +kernel
theorem dX8_addsStreet_8 : decode cX8_addsStreet 8 = .ok (.iload_n 1, 1) := by decide +kernel
theorem dX8_addsStreet_9 : decode cX8_addsStreet 9 = .ok (.iastore, 1) := by decide +kernel
theorem dX8_addsStreet_10 : decode cX8_addsStreet 10 = .ok (.aload_n 0, 1) := by decide +kernel
theorem dX8_addsStreet_11 : decode cX8_addsStreet 11 = .ok (.getfield 16, 3) := by decide +kernel
theorem dX8_addsStreet_14 : decode cX8_addsStreet 14 = .ok (.aload_n 0, 1) := by decide +kernel
theorem dX8_addsStreet_15 : decode cX8_addsStreet 15 = .ok (.getfield 61, 3) := by decide +kernel
theorem dX8_addsStreet_18 : decode cX8_addsStreet 18 = .ok (.iload_n 2, 1) := by decide +kernel
theorem dX8_addsStreet_19 : decode cX8_addsStreet 19 = .ok (.iastore, 1) := by decide +kernel
theorem dX8_addsStreet_20 : decode cX8_addsStreet 20 = .ok (.aload_n 0, 1) := by decide +kernel
theorem dX8_addsStreet_21 : decode cX8_addsStreet 21 = .ok (.getfield 19, 3) := by decide +kernel
theorem dX8_addsStreet_24 : decode cX8_addsStreet 24 = .ok (.aload_n 0, 1) := by decide +kernel
theorem dX8_addsStreet_25 : decode cX8_addsStreet 25 = .ok (.getfield 61, 3) := by decide +kernel
theorem dX8_addsStreet_28 : decode cX8_addsStreet 28 = .ok (.iload_n 3, 1) := by decide +kernel
theorem dX8_addsStreet_29 : decode cX8_addsStreet 29 = .ok (.iastore, 1) := by decide +kernel
theorem dX8_addsStreet_30 : decode cX8_addsStreet 30 = .ok (.aload_n 0, 1) := by decide +kernel
theorem dX8_addsStreet_31 : decode cX8_addsStreet 31 = .ok (.dup, 1) := by decide +kernel
theorem dX8_addsStreet_32 : decode cX8_addsStreet 32 = .ok (.getfield 61, 3) := by decide +kernel
theorem dX8_addsStreet_35 : decode cX8_addsStreet 35 = .ok (.iconst 1, 1) := by decide +kernel
theorem dX8_addsStreet_36 : decode cX8_addsStreet 36 = .ok (.iadd, 1) := by decide +kernel
theorem dX8_addsStreet_37 : decode cX8_addsStreet 37 = .ok (.putfield 61, 3) := by decide +kernel
theorem dX8_addsStreet_40 : decode cX8_addsStreet 40 = .ok (.return_, 1) := by decide +kernel
theorem dX8_addsLearner_0 : decode cX8_addsLearner 0 = .ok (.aload_n 0, 1) := by decide +kernel
theorem dX8_addsLearner_1 : decode cX8_addsLearner 1 = .ok (.getfield 25, 3) := by decide +kernel
theorem dX8_addsLearner_4 : decode cX8_addsLearner 4 = .ok (.aload_n 0, 1) := by decide +kernel
theorem dX8_addsLearner_5 : decode cX8_addsLearner 5 = .ok (.getfield 67, 3) := by decide +kernel
theorem dX8_addsLearner_8 : decode cX8_addsLearner 8 = .ok (.iload_n 1, 1) := by decide +kernel
theorem dX8_addsLearner_9 : decode cX8_addsLearner 9 = .ok (.iastore, 1) := by decide +kernel
theorem dX8_addsLearner_10 : decode cX8_addsLearner 10 = .ok (.aload_n 0, 1) := by decide +kernel
theorem dX8_addsLearner_11 : decode cX8_addsLearner 11 = .ok (.getfield 28, 3) := by decide +kernel
theorem dX8_addsLearner_14 : decode cX8_addsLearner 14 = .ok (.aload_n 0, 1) := by decide +kernel
theorem dX8_addsLearner_15 : decode cX8_addsLearner 15 = .ok (.getfield 67, 3) := by decide +kernel
theorem dX8_addsLearner_18 : decode cX8_addsLearner 18 = .ok (.iconst 0, 1) := by decide +kernel
theorem dX8_addsLearner_19 : decode cX8_addsLearner 19 = .ok (.iastore, 1) := by decide +kernel
theorem dX8_addsLearner_20 : decode cX8_addsLearner 20 = .ok (.aload_n 0, 1) := by decide +kernel
theorem dX8_addsLearner_21 : decode cX8_addsLearner 21 = .ok (.dup, 1) := by decide +kernel
theorem dX8_addsLearner_22 : decode cX8_addsLearner 22 = .ok (.getfield 67, 3) := by decide +kernel
theorem dX8_addsLearner_25 : decode cX8_addsLearner 25 = .ok (.iconst 1, 1) := by decide +kernel
theorem dX8_addsLearner_26 : decode cX8_addsLearner 26 = .ok (.iadd, 1) := by decide +kernel
theorem dX8_addsLearner_27 : decode cX8_addsLearner 27 = .ok (.putfield 67, 3) := by decide +kernel
theorem dX8_addsLearner_30 : decode cX8_addsLearner 30 = .ok (.return_, 1) := by decide +kernel
theorem dX8_hardOf_0 : decode cX8_hardOf 0 = .ok (.aload_n 0, 1) := by decide +kernel
theorem dX8_hardOf_1 : decode cX8_hardOf 1 = .ok (.getfield 16, 3) := by decide +kernel
theorem dX8_hardOf_4 : decode cX8_hardOf 4 = .ok (.iload_n 1, 1) := by decide +kernel
theorem dX8_hardOf_5 : decode cX8_hardOf 5 = .ok (.iaload, 1) := by decide +kernel
theorem dX8_hardOf_6 : decode cX8_hardOf 6 = .ok (.istore_n 3, 1) := by decide +kernel
theorem dX8_hardOf_7 : decode cX8_hardOf 7 = .ok (.iload_n 3, 1) := by decide +kernel
theorem dX8_hardOf_8 : decode cX8_hardOf 8 = .ok (.iload_n 2, 1) := by decide +kernel
theorem dX8_hardOf_9 : decode cX8_hardOf 9 = .ok (.bipush 15, 2) := by decide +kernel
theorem dX8_hardOf_11 : decode cX8_hardOf 11 = .ok (.bipush 17, 2) := by decide +kernel
theorem dX8_hardOf_13 : decode cX8_hardOf 13 = .ok (.invokestatic 88, 3) := by decide +kernel
theorem dX8_hardOf_16 : decode cX8_hardOf 16 = .ok (.ifCond .eq 7, 3) := by decide +kernel
theorem dX8_hardOf_19 : decode cX8_hardOf 19 = .ok (.iconst 3, 1) := by decide +kernel
theorem dX8_hardOf_20 : decode cX8_hardOf 20 = .ok (.goto 4, 3) := by decide +kernel
theorem dX8_hardOf_23 : decode cX8_hardOf 23 = .ok (.iconst 1, 1) := by decide +kernel
theorem dX8_hardOf_24 : decode cX8_hardOf 24 = .ok (.iadd, 1) := by decide +kernel
theorem dX8_hardOf_25 : decode cX8_hardOf 25 = .ok (.istore 4, 2) := by decide +kernel
theorem dX8_hardOf_27 : decode cX8_hardOf 27 = .ok (.aload_n 0, 1) := by decide +kernel
theorem dX8_hardOf_28 : decode cX8_hardOf 28 = .ok (.getfield 13, 3) := by decide +kernel
theorem dX8_hardOf_31 : decode cX8_hardOf 31 = .ok (.iload_n 1, 1) := by decide +kernel
theorem dX8_hardOf_32 : decode cX8_hardOf 32 = .ok (.iaload, 1) := by decide +kernel
theorem dX8_hardOf_33 : decode cX8_hardOf 33 = .ok (.tableswitch 73 1 5 #[35, 39, 42, 64, 68], 35) := by decide +kernel
theorem dX8_hardOf_68 : decode cX8_hardOf 68 = .ok (.iload_n 3, 1) := by decide +kernel
theorem dX8_hardOf_69 : decode cX8_hardOf 69 = .ok (.iconst 2, 1) := by decide +kernel
theorem dX8_hardOf_70 : decode cX8_hardOf 70 = .ok (.iadd, 1) := by decide +kernel
theorem dX8_hardOf_71 : decode cX8_hardOf 71 = .ok (.ireturn, 1) := by decide +kernel
theorem dX8_hardOf_72 : decode cX8_hardOf 72 = .ok (.iload 4, 2) := by decide +kernel
theorem dX8_hardOf_74 : decode cX8_hardOf 74 = .ok (.ireturn, 1) := by decide +kernel
theorem dX8_hardOf_75 : decode cX8_hardOf 75 = .ok (.iload_n 3, 1) := by decide +kernel
theorem dX8_hardOf_76 : decode cX8_hardOf 76 = .ok (.iconst 2, 1) := by decide +kernel
theorem dX8_hardOf_77 : decode cX8_hardOf 77 = .ok (.iadd, 1) := by decide +kernel
theorem dX8_hardOf_78 : decode cX8_hardOf 78 = .ok (.iload_n 2, 1) := by decide +kernel
theorem dX8_hardOf_79 : decode cX8_hardOf 79 = .ok (.bipush 8, 2) := by decide +kernel
theorem dX8_hardOf_81 : decode cX8_hardOf 81 = .ok (.if_icmp .eq 9, 3) := by decide +kernel
theorem dX8_hardOf_84 : decode cX8_hardOf 84 = .ok (.iload_n 2, 1) := by decide +kernel
theorem dX8_hardOf_85 : decode cX8_hardOf 85 = .ok (.bipush 15, 2) := by decide +kernel
theorem dX8_hardOf_87 : decode cX8_hardOf 87 = .ok (.if_icmp .ne 7, 3) := by decide +kernel
theorem dX8_hardOf_90 : decode cX8_hardOf 90 = .ok (.iconst 2, 1) := by decide +kernel
theorem dX8_hardOf_91 : decode cX8_hardOf 91 = .ok (.goto 4, 3) := by decide +kernel
theorem dX8_hardOf_94 : decode cX8_hardOf 94 = .ok (.iconst 1, 1) := by decide +kernel
theorem dX8_hardOf_95 : decode cX8_hardOf 95 = .ok (.imul, 1) := by decide +kernel
theorem dX8_hardOf_96 : decode cX8_hardOf 96 = .ok (.ireturn, 1) := by decide +kernel
theorem dX8_hardOf_97 : decode cX8_hardOf 97 = .ok (.iload_n 3, 1) := by decide +kernel
theorem dX8_hardOf_98 : decode cX8_hardOf 98 = .ok (.iconst 2, 1) := by decide +kernel
theorem dX8_hardOf_99 : decode cX8_hardOf 99 = .ok (.idiv, 1) := by decide +kernel
theorem dX8_hardOf_100 : decode cX8_hardOf 100 = .ok (.ireturn, 1) := by decide +kernel
theorem dX8_hardOf_101 : decode cX8_hardOf 101 = .ok (.iload 4, 2) := by decide +kernel
theorem dX8_hardOf_103 : decode cX8_hardOf 103 = .ok (.iconst 1, 1) := by decide +kernel
theorem dX8_hardOf_104 : decode cX8_hardOf 104 = .ok (.iadd, 1) := by decide +kernel
theorem dX8_hardOf_105 : decode cX8_hardOf 105 = .ok (.ireturn, 1) := by decide +kernel
theorem dX8_hardOf_106 : decode cX8_hardOf 106 = .ok (.iload_n 3, 1) := by decide +kernel
theorem dX8_hardOf_107 : decode cX8_hardOf 107 = .ok (.ireturn, 1) := by decide +kernel
theorem dX8_ballOf_0 : decode cX8_ballOf 0 = .ok (.aload_n 0, 1) := by decide +kernel
theorem dX8_ballOf_1 : decode cX8_ballOf 1 = .ok (.getfield 13, 3) := by decide +kernel
theorem dX8_ballOf_4 : decode cX8_ballOf 4 = .ok (.iload_n 1, 1) := by decide +kernel
theorem dX8_ballOf_5 : decode cX8_ballOf 5 = .ok (.iaload, 1) := by decide +kernel
theorem dX8_ballOf_6 : decode cX8_ballOf 6 = .ok (.tableswitch 36 2 5 #[32, 30, 34, 32], 30) := by decide +kernel
theorem dX8_ballOf_36 : decode cX8_ballOf 36 = .ok (.iconst 4, 1) := by decide +kernel
theorem dX8_ballOf_37 : decode cX8_ballOf 37 = .ok (.ireturn, 1) := by decide +kernel
theorem dX8_ballOf_38 : decode cX8_ballOf 38 = .ok (.iconst 3, 1) := by decide +kernel
theorem dX8_ballOf_39 : decode cX8_ballOf 39 = .ok (.ireturn, 1) := by decide +kernel
theorem dX8_ballOf_40 : decode cX8_ballOf 40 = .ok (.iconst 0, 1) := by decide +kernel
theorem dX8_ballOf_41 : decode cX8_ballOf 41 = .ok (.ireturn, 1) := by decide +kernel
theorem dX8_ballOf_42 : decode cX8_ballOf 42 = .ok (.iconst 1, 1) := by decide +kernel
theorem dX8_ballOf_43 : decode cX8_ballOf 43 = .ok (.ireturn, 1) := by decide +kernel
theorem dX8_faultsIn_0 : decode cX8_faultsIn 0 = .ok (.aload_n 0, 1) := by decide +kernel
theorem dX8_faultsIn_1 : decode cX8_faultsIn 1 = .ok (.iload_n 2, 1) := by decide +kernel
theorem dX8_faultsIn_2 : decode cX8_faultsIn 2 = .ok (.iload_n 3, 1) := by decide +kernel
theorem dX8_faultsIn_3 : decode cX8_faultsIn 3 = .ok (.invokevirtual 169, 3) := by decide +kernel
theorem dX8_faultsIn_6 : decode cX8_faultsIn 6 = .ok (.aload_n 0, 1) := by decide +kernel
theorem dX8_faultsIn_7 : decode cX8_faultsIn 7 = .ok (.getfield 25, 3) := by decide +kernel
theorem dX8_faultsIn_10 : decode cX8_faultsIn 10 = .ok (.iload_n 1, 1) := by decide +kernel
theorem dX8_faultsIn_11 : decode cX8_faultsIn 11 = .ok (.iaload, 1) := by decide +kernel
theorem dX8_faultsIn_12 : decode cX8_faultsIn 12 = .ok (.isub, 1) := by decide +kernel
theorem dX8_faultsIn_13 : decode cX8_faultsIn 13 = .ok (.istore 4, 2) := by decide +kernel
theorem dX8_faultsIn_15 : decode cX8_faultsIn 15 = .ok (.iload 4, 2) := by decide +kernel
theorem dX8_faultsIn_17 : decode cX8_faultsIn 17 = .ok (.ifCond .ge 7, 3) := by decide +kernel
theorem dX8_faultsIn_20 : decode cX8_faultsIn 20 = .ok (.iconst 0, 1) := by decide +kernel
theorem dX8_faultsIn_21 : decode cX8_faultsIn 21 = .ok (.goto 25, 3) := by decide +kernel
theorem dX8_faultsIn_24 : decode cX8_faultsIn 24 = .ok (.aload_n 0, 1) := by decide +kernel
theorem dX8_faultsIn_25 : decode cX8_faultsIn 25 = .ok (.getfield 28, 3) := by decide +kernel
theorem dX8_faultsIn_28 : decode cX8_faultsIn 28 = .ok (.iload_n 1, 1) := by decide +kernel
theorem dX8_faultsIn_29 : decode cX8_faultsIn 29 = .ok (.iaload, 1) := by decide +kernel
theorem dX8_faultsIn_30 : decode cX8_faultsIn 30 = .ok (.iload_n 2, 1) := by decide +kernel
theorem dX8_faultsIn_31 : decode cX8_faultsIn 31 = .ok (.invokestatic 173, 3) := by decide +kernel
theorem dX8_faultsIn_34 : decode cX8_faultsIn 34 = .ok (.ifCond .eq 10, 3) := by decide +kernel
theorem dX8_faultsIn_37 : decode cX8_faultsIn 37 = .ok (.iload 4, 2) := by decide +kernel
theorem dX8_faultsIn_39 : decode cX8_faultsIn 39 = .ok (.iconst 2, 1) := by decide +kernel
theorem dX8_faultsIn_40 : decode cX8_faultsIn 40 = .ok (.idiv, 1) := by decide +kernel
theorem dX8_faultsIn_41 : decode cX8_faultsIn 41 = .ok (.goto 5, 3) := by decide +kernel
theorem dX8_faultsIn_44 : decode cX8_faultsIn 44 = .ok (.iload 4, 2) := by decide +kernel
theorem dX8_faultsIn_46 : decode cX8_faultsIn 46 = .ok (.ireturn, 1) := by decide +kernel
theorem dX8_faultsOn_0 : decode cX8_faultsOn 0 = .ok (.iconst 0, 1) := by decide +kernel
theorem dX8_faultsOn_1 : decode cX8_faultsOn 1 = .ok (.istore 4, 2) := by decide +kernel
theorem dX8_faultsOn_3 : decode cX8_faultsOn 3 = .ok (.iconst 0, 1) := by decide +kernel
theorem dX8_faultsOn_4 : decode cX8_faultsOn 4 = .ok (.istore 5, 2) := by decide +kernel
theorem dX8_faultsOn_6 : decode cX8_faultsOn 6 = .ok (.iload 5, 2) := by decide +kernel
theorem dX8_faultsOn_8 : decode cX8_faultsOn 8 = .ok (.aload_n 0, 1) := by decide +kernel
theorem dX8_faultsOn_9 : decode cX8_faultsOn 9 = .ok (.getfield 61, 3) := by decide +kernel
theorem dX8_faultsOn_12 : decode cX8_faultsOn 12 = .ok (.if_icmp .ge 35, 3) := by decide +kernel
theorem dX8_faultsOn_15 : decode cX8_faultsOn 15 = .ok (.iload 4, 2) := by decide +kernel
theorem dX8_faultsOn_17 : decode cX8_faultsOn 17 = .ok (.iload_n 2, 1) := by decide +kernel
theorem dX8_faultsOn_18 : decode cX8_faultsOn 18 = .ok (.iload 5, 2) := by decide +kernel
theorem dX8_faultsOn_20 : decode cX8_faultsOn 20 = .ok (.invokestatic 173, 3) := by decide +kernel
theorem dX8_faultsOn_23 : decode cX8_faultsOn 23 = .ok (.ifCond .eq 14, 3) := by decide +kernel
theorem dX8_faultsOn_26 : decode cX8_faultsOn 26 = .ok (.aload_n 0, 1) := by decide +kernel
theorem dX8_faultsOn_27 : decode cX8_faultsOn 27 = .ok (.iload_n 1, 1) := by decide +kernel
theorem dX8_faultsOn_28 : decode cX8_faultsOn 28 = .ok (.iload 5, 2) := by decide +kernel
theorem dX8_faultsOn_30 : decode cX8_faultsOn 30 = .ok (.iload_n 3, 1) := by decide +kernel
theorem dX8_faultsOn_31 : decode cX8_faultsOn 31 = .ok (.invokevirtual 176, 3) := by decide +kernel
theorem dX8_faultsOn_34 : decode cX8_faultsOn 34 = .ok (.goto 4, 3) := by decide +kernel
theorem dX8_faultsOn_37 : decode cX8_faultsOn 37 = .ok (.iconst 0, 1) := by decide +kernel
theorem dX8_faultsOn_38 : decode cX8_faultsOn 38 = .ok (.iadd, 1) := by decide +kernel
theorem dX8_faultsOn_39 : decode cX8_faultsOn 39 = .ok (.istore 4, 2) := by decide +kernel
theorem dX8_faultsOn_41 : decode cX8_faultsOn 41 = .ok (.iinc 5 1, 3) := by decide +kernel
theorem dX8_faultsOn_44 : decode cX8_faultsOn 44 = .ok (.goto (-38), 3) := by decide +kernel
theorem dX8_faultsOn_47 : decode cX8_faultsOn 47 = .ok (.iload 4, 2) := by decide +kernel
theorem dX8_faultsOn_49 : decode cX8_faultsOn 49 = .ok (.ireturn, 1) := by decide +kernel
theorem dX8_isPassed_0 : decode cX8_isPassed 0 = .ok (.iconst 0, 1) := by decide +kernel
theorem dX8_isPassed_1 : decode cX8_isPassed 1 = .ok (.istore 4, 2) := by decide +kernel
theorem dX8_isPassed_3 : decode cX8_isPassed 3 = .ok (.iload 4, 2) := by decide +kernel
theorem dX8_isPassed_5 : decode cX8_isPassed 5 = .ok (.aload_n 0, 1) := by decide +kernel
theorem dX8_isPassed_6 : decode cX8_isPassed 6 = .ok (.getfield 61, 3) := by decide +kernel
theorem dX8_isPassed_9 : decode cX8_isPassed 9 = .ok (.if_icmp .ge 32, 3) := by decide +kernel
theorem dX8_isPassed_12 : decode cX8_isPassed 12 = .ok (.iload_n 2, 1) := by decide +kernel
theorem dX8_isPassed_13 : decode cX8_isPassed 13 = .ok (.iload 4, 2) := by decide +kernel
theorem dX8_isPassed_15 : decode cX8_isPassed 15 = .ok (.invokestatic 173, 3) := by decide +kernel
theorem dX8_isPassed_18 : decode cX8_isPassed 18 = .ok (.ifCond .eq 17, 3) := by decide +kernel
theorem dX8_isPassed_21 : decode cX8_isPassed 21 = .ok (.aload_n 0, 1) := by decide +kernel
theorem dX8_isPassed_22 : decode cX8_isPassed 22 = .ok (.iload_n 1, 1) := by decide +kernel
theorem dX8_isPassed_23 : decode cX8_isPassed 23 = .ok (.iload 4, 2) := by decide +kernel
theorem dX8_isPassed_25 : decode cX8_isPassed 25 = .ok (.iload_n 3, 1) := by decide +kernel
theorem dX8_isPassed_26 : decode cX8_isPassed 26 = .ok (.invokevirtual 176, 3) := by decide +kernel
theorem dX8_isPassed_29 : decode cX8_isPassed 29 = .ok (.iconst 5, 1) := by decide +kernel
theorem dX8_isPassed_30 : decode cX8_isPassed 30 = .ok (.if_icmp .le 5, 3) := by decide +kernel
theorem dX8_isPassed_33 : decode cX8_isPassed 33 = .ok (.iconst 0, 1) := by decide +kernel
theorem dX8_isPassed_34 : decode cX8_isPassed 34 = .ok (.ireturn, 1) := by decide +kernel
theorem dX8_isPassed_35 : decode cX8_isPassed 35 = .ok (.iinc 4 1, 3) := by decide +kernel
theorem dX8_isPassed_38 : decode cX8_isPassed 38 = .ok (.goto (-35), 3) := by decide +kernel
theorem dX8_isPassed_41 : decode cX8_isPassed 41 = .ok (.aload_n 0, 1) := by decide +kernel
theorem dX8_isPassed_42 : decode cX8_isPassed 42 = .ok (.iload_n 1, 1) := by decide +kernel
theorem dX8_isPassed_43 : decode cX8_isPassed 43 = .ok (.iload_n 2, 1) := by decide +kernel
theorem dX8_isPassed_44 : decode cX8_isPassed 44 = .ok (.iload_n 3, 1) := by decide +kernel
theorem dX8_isPassed_45 : decode cX8_isPassed 45 = .ok (.invokevirtual 179, 3) := by decide +kernel
theorem dX8_isPassed_48 : decode cX8_isPassed 48 = .ok (.aload_n 0, 1) := by decide +kernel
theorem dX8_isPassed_49 : decode cX8_isPassed 49 = .ok (.getfield 56, 3) := by decide +kernel
theorem dX8_isPassed_52 : decode cX8_isPassed 52 = .ok (.if_icmp .gt 7, 3) := by decide +kernel
theorem dX8_isPassed_55 : decode cX8_isPassed 55 = .ok (.iconst 1, 1) := by decide +kernel
theorem dX8_isPassed_56 : decode cX8_isPassed 56 = .ok (.goto 4, 3) := by decide +kernel
theorem dX8_isPassed_59 : decode cX8_isPassed 59 = .ok (.iconst 0, 1) := by decide +kernel
theorem dX8_isPassed_60 : decode cX8_isPassed 60 = .ok (.ireturn, 1) := by decide +kernel
theorem dX8_passesWay_0 : decode cX8_passesWay 0 = .ok (.aload_n 0, 1) := by decide +kernel
theorem dX8_passesWay_1 : decode cX8_passesWay 1 = .ok (.iload_n 1, 1) := by decide +kernel
theorem dX8_passesWay_2 : decode cX8_passesWay 2 = .ok (.aload_n 0, 1) := by decide +kernel
theorem dX8_passesWay_3 : decode cX8_passesWay 3 = .ok (.getfield 22, 3) := by decide +kernel
theorem dX8_passesWay_6 : decode cX8_passesWay 6 = .ok (.iload_n 2, 1) := by decide +kernel
theorem dX8_passesWay_7 : decode cX8_passesWay 7 = .ok (.iaload, 1) := by decide +kernel
theorem dX8_passesWay_8 : decode cX8_passesWay 8 = .ok (.iload_n 3, 1) := by decide +kernel
theorem dX8_passesWay_9 : decode cX8_passesWay 9 = .ok (.invokevirtual 182, 3) := by decide +kernel
theorem dX8_passesWay_12 : decode cX8_passesWay 12 = .ok (.ireturn, 1) := by decide +kernel
theorem dX8_passedWays_0 : decode cX8_passedWays 0 = .ok (.iconst 0, 1) := by decide +kernel
theorem dX8_passedWays_1 : decode cX8_passedWays 1 = .ok (.istore_n 3, 1) := by decide +kernel
theorem dX8_passedWays_2 : decode cX8_passedWays 2 = .ok (.iconst 0, 1) := by decide +kernel
theorem dX8_passedWays_3 : decode cX8_passedWays 3 = .ok (.istore 4, 2) := by decide +kernel
theorem dX8_passedWays_5 : decode cX8_passedWays 5 = .ok (.iload 4, 2) := by decide +kernel
theorem dX8_passedWays_7 : decode cX8_passedWays 7 = .ok (.aload_n 0, 1) := by decide +kernel
theorem dX8_passedWays_8 : decode cX8_passedWays 8 = .ok (.getfield 64, 3) := by decide +kernel
theorem dX8_passedWays_11 : decode cX8_passedWays 11 = .ok (.if_icmp .ge 31, 3) := by decide +kernel
theorem dX8_passedWays_14 : decode cX8_passedWays 14 = .ok (.iload_n 3, 1) := by decide +kernel
theorem dX8_passedWays_15 : decode cX8_passedWays 15 = .ok (.aload_n 0, 1) := by decide +kernel
theorem dX8_passedWays_16 : decode cX8_passedWays 16 = .ok (.iload_n 1, 1) := by decide +kernel
theorem dX8_passedWays_17 : decode cX8_passedWays 17 = .ok (.iload 4, 2) := by decide +kernel
theorem dX8_passedWays_19 : decode cX8_passedWays 19 = .ok (.iload_n 2, 1) := by decide +kernel
theorem dX8_passedWays_20 : decode cX8_passedWays 20 = .ok (.invokevirtual 185, 3) := by decide +kernel
theorem dX8_passedWays_23 : decode cX8_passedWays 23 = .ok (.ifCond .eq 10, 3) := by decide +kernel
theorem dX8_passedWays_26 : decode cX8_passedWays 26 = .ok (.iconst 1, 1) := by decide +kernel
theorem dX8_passedWays_27 : decode cX8_passedWays 27 = .ok (.iload 4, 2) := by decide +kernel
theorem dX8_passedWays_29 : decode cX8_passedWays 29 = .ok (.ishl, 1) := by decide +kernel
theorem dX8_passedWays_30 : decode cX8_passedWays 30 = .ok (.goto 4, 3) := by decide +kernel
theorem dX8_passedWays_33 : decode cX8_passedWays 33 = .ok (.iconst 0, 1) := by decide +kernel
theorem dX8_passedWays_34 : decode cX8_passedWays 34 = .ok (.ior, 1) := by decide +kernel
theorem dX8_passedWays_35 : decode cX8_passedWays 35 = .ok (.istore_n 3, 1) := by decide +kernel
theorem dX8_passedWays_36 : decode cX8_passedWays 36 = .ok (.iinc 4 1, 3) := by decide +kernel
theorem dX8_passedWays_39 : decode cX8_passedWays 39 = .ok (.goto (-34), 3) := by decide +kernel
theorem dX8_passedWays_42 : decode cX8_passedWays 42 = .ok (.iload_n 3, 1) := by decide +kernel
theorem dX8_passedWays_43 : decode cX8_passedWays 43 = .ok (.ireturn, 1) := by decide +kernel
theorem dX8_goesDay_0 : decode cX8_goesDay 0 = .ok (.aload_n 0, 1) := by decide +kernel
theorem dX8_goesDay_1 : decode cX8_goesDay 1 = .ok (.dup, 1) := by decide +kernel
theorem dX8_goesDay_2 : decode cX8_goesDay 2 = .ok (.getfield 129, 3) := by decide +kernel
theorem dX8_goesDay_5 : decode cX8_goesDay 5 = .ok (.iconst 1, 1) := by decide +kernel
theorem dX8_goesDay_6 : decode cX8_goesDay 6 = .ok (.iadd, 1) := by decide +kernel
theorem dX8_goesDay_7 : decode cX8_goesDay 7 = .ok (.putfield 129, 3) := by decide +kernel
theorem dX8_goesDay_10 : decode cX8_goesDay 10 = .ok (.aload_n 0, 1) := by decide +kernel
theorem dX8_goesDay_11 : decode cX8_goesDay 11 = .ok (.bipush 8, 2) := by decide +kernel
theorem dX8_goesDay_13 : decode cX8_goesDay 13 = .ok (.putfield 52, 3) := by decide +kernel
theorem dX8_goesDay_16 : decode cX8_goesDay 16 = .ok (.iconst 0, 1) := by decide +kernel
theorem dX8_goesDay_17 : decode cX8_goesDay 17 = .ok (.istore_n 1, 1) := by decide +kernel
theorem dX8_goesDay_18 : decode cX8_goesDay 18 = .ok (.iload_n 1, 1) := by decide +kernel
theorem dX8_goesDay_19 : decode cX8_goesDay 19 = .ok (.aload_n 0, 1) := by decide +kernel
theorem dX8_goesDay_20 : decode cX8_goesDay 20 = .ok (.getfield 67, 3) := by decide +kernel
theorem dX8_goesDay_23 : decode cX8_goesDay 23 = .ok (.if_icmp .ge 53, 3) := by decide +kernel
theorem dX8_goesDay_26 : decode cX8_goesDay 26 = .ok (.bipush 7, 2) := by decide +kernel
theorem dX8_goesDay_28 : decode cX8_goesDay 28 = .ok (.istore_n 2, 1) := by decide +kernel
theorem dX8_goesDay_29 : decode cX8_goesDay 29 = .ok (.iload_n 2, 1) := by decide +kernel
theorem dX8_goesDay_30 : decode cX8_goesDay 30 = .ok (.ifCond .lt 22, 3) := by decide +kernel
theorem dX8_goesDay_33 : decode cX8_goesDay 33 = .ok (.aload_n 0, 1) := by decide +kernel
theorem dX8_goesDay_34 : decode cX8_goesDay 34 = .ok (.getfield 28, 3) := by decide +kernel
theorem dX8_goesDay_37 : decode cX8_goesDay 37 = .ok (.iload_n 1, 1) := by decide +kernel
theorem dX8_goesDay_38 : decode cX8_goesDay 38 = .ok (.iaload, 1) := by decide +kernel
theorem dX8_goesDay_39 : decode cX8_goesDay 39 = .ok (.iload_n 2, 1) := by decide +kernel
theorem dX8_goesDay_40 : decode cX8_goesDay 40 = .ok (.invokestatic 173, 3) := by decide +kernel
theorem dX8_goesDay_43 : decode cX8_goesDay 43 = .ok (.ifCond .ne 9, 3) := by decide +kernel
theorem dX8_goesDay_46 : decode cX8_goesDay 46 = .ok (.iinc 2 (-1), 3) := by decide +kernel
theorem dX8_goesDay_49 : decode cX8_goesDay 49 = .ok (.goto (-20), 3) := by decide +kernel
theorem dX8_goesDay_52 : decode cX8_goesDay 52 = .ok (.iload_n 2, 1) := by decide +kernel
theorem dX8_goesDay_53 : decode cX8_goesDay 53 = .ok (.ifCond .lt 17, 3) := by decide +kernel
theorem dX8_goesDay_56 : decode cX8_goesDay 56 = .ok (.aload_n 0, 1) := by decide +kernel
theorem dX8_goesDay_57 : decode cX8_goesDay 57 = .ok (.getfield 28, 3) := by decide +kernel
theorem dX8_goesDay_60 : decode cX8_goesDay 60 = .ok (.iload_n 1, 1) := by decide +kernel
theorem dX8_goesDay_61 : decode cX8_goesDay 61 = .ok (.dup2, 1) := by decide +kernel
theorem dX8_goesDay_62 : decode cX8_goesDay 62 = .ok (.iaload, 1) := by decide +kernel
theorem dX8_goesDay_63 : decode cX8_goesDay 63 = .ok (.iconst 1, 1) := by decide +kernel
theorem dX8_goesDay_64 : decode cX8_goesDay 64 = .ok (.iload_n 2, 1) := by decide +kernel
theorem dX8_goesDay_65 : decode cX8_goesDay 65 = .ok (.ishl, 1) := by decide +kernel
theorem dX8_goesDay_66 : decode cX8_goesDay 66 = .ok (.iconst (-1), 1) := by decide +kernel
theorem dX8_goesDay_67 : decode cX8_goesDay 67 = .ok (.ixor, 1) := by decide +kernel
theorem dX8_goesDay_68 : decode cX8_goesDay 68 = .ok (.iand, 1) := by decide +kernel
theorem dX8_goesDay_69 : decode cX8_goesDay 69 = .ok (.iastore, 1) := by decide +kernel
theorem dX8_goesDay_70 : decode cX8_goesDay 70 = .ok (.iinc 1 1, 3) := by decide +kernel
theorem dX8_goesDay_73 : decode cX8_goesDay 73 = .ok (.goto (-55), 3) := by decide +kernel
theorem dX8_goesDay_76 : decode cX8_goesDay 76 = .ok (.return_, 1) := by decide +kernel
theorem dX8_streetOf_0 : decode cX8_streetOf 0 = .ok (.aload_n 0, 1) := by decide +kernel
theorem dX8_streetOf_1 : decode cX8_streetOf 1 = .ok (.iload_n 1, 1) := by decide +kernel
theorem dX8_streetOf_2 : decode cX8_streetOf 2 = .ok (.invokevirtual 117, 3) := by decide +kernel
theorem dX8_streetOf_5 : decode cX8_streetOf 5 = .ok (.ifCond .ne 9, 3) := by decide +kernel
theorem dX8_streetOf_8 : decode cX8_streetOf 8 = .ok (.aload_n 0, 1) := by decide +kernel
theorem dX8_streetOf_9 : decode cX8_streetOf 9 = .ok (.iconst (-1), 1) := by decide +kernel
theorem dX8_streetOf_10 : decode cX8_streetOf 10 = .ok (.invokevirtual 77, 3) := by decide +kernel
theorem dX8_streetOf_13 : decode cX8_streetOf 13 = .ok (.ireturn, 1) := by decide +kernel
theorem dX8_streetOf_14 : decode cX8_streetOf 14 = .ok (.iload_n 2, 1) := by decide +kernel
theorem dX8_streetOf_15 : decode cX8_streetOf 15 = .ok (.tableswitch 70 0 4 #[33, 40, 47, 54, 64], 33) := by decide +kernel
theorem dX8_streetOf_48 : decode cX8_streetOf 48 = .ok (.aload_n 0, 1) := by decide +kernel
theorem dX8_streetOf_49 : decode cX8_streetOf 49 = .ok (.getfield 13, 3) := by decide +kernel
theorem dX8_streetOf_52 : decode cX8_streetOf 52 = .ok (.iload_n 1, 1) := by decide +kernel
theorem dX8_streetOf_53 : decode cX8_streetOf 53 = .ok (.iaload, 1) := by decide +kernel
theorem dX8_streetOf_54 : decode cX8_streetOf 54 = .ok (.ireturn, 1) := by decide +kernel
theorem dX8_streetOf_55 : decode cX8_streetOf 55 = .ok (.aload_n 0, 1) := by decide +kernel
theorem dX8_streetOf_56 : decode cX8_streetOf 56 = .ok (.getfield 16, 3) := by decide +kernel
theorem dX8_streetOf_59 : decode cX8_streetOf 59 = .ok (.iload_n 1, 1) := by decide +kernel
theorem dX8_streetOf_60 : decode cX8_streetOf 60 = .ok (.iaload, 1) := by decide +kernel
theorem dX8_streetOf_61 : decode cX8_streetOf 61 = .ok (.ireturn, 1) := by decide +kernel
theorem dX8_streetOf_62 : decode cX8_streetOf 62 = .ok (.aload_n 0, 1) := by decide +kernel
theorem dX8_streetOf_63 : decode cX8_streetOf 63 = .ok (.getfield 19, 3) := by decide +kernel
theorem dX8_streetOf_66 : decode cX8_streetOf 66 = .ok (.iload_n 1, 1) := by decide +kernel
theorem dX8_streetOf_67 : decode cX8_streetOf 67 = .ok (.iaload, 1) := by decide +kernel
theorem dX8_streetOf_68 : decode cX8_streetOf 68 = .ok (.ireturn, 1) := by decide +kernel
theorem dX8_streetOf_69 : decode cX8_streetOf 69 = .ok (.aload_n 0, 1) := by decide +kernel
theorem dX8_streetOf_70 : decode cX8_streetOf 70 = .ok (.iload_n 1, 1) := by decide +kernel
theorem dX8_streetOf_71 : decode cX8_streetOf 71 = .ok (.aload_n 0, 1) := by decide +kernel
theorem dX8_streetOf_72 : decode cX8_streetOf 72 = .ok (.getfield 52, 3) := by decide +kernel
theorem dX8_streetOf_75 : decode cX8_streetOf 75 = .ok (.invokevirtual 169, 3) := by decide +kernel
theorem dX8_streetOf_78 : decode cX8_streetOf 78 = .ok (.ireturn, 1) := by decide +kernel
theorem dX8_streetOf_79 : decode cX8_streetOf 79 = .ok (.aload_n 0, 1) := by decide +kernel
theorem dX8_streetOf_80 : decode cX8_streetOf 80 = .ok (.iload_n 1, 1) := by decide +kernel
theorem dX8_streetOf_81 : decode cX8_streetOf 81 = .ok (.invokevirtual 188, 3) := by decide +kernel
theorem dX8_streetOf_84 : decode cX8_streetOf 84 = .ok (.ireturn, 1) := by decide +kernel
theorem dX8_streetOf_85 : decode cX8_streetOf 85 = .ok (.aload_n 0, 1) := by decide +kernel
theorem dX8_streetOf_86 : decode cX8_streetOf 86 = .ok (.bipush (-2), 2) := by decide +kernel
theorem dX8_streetOf_88 : decode cX8_streetOf 88 = .ok (.invokevirtual 77, 3) := by decide +kernel
theorem dX8_streetOf_91 : decode cX8_streetOf 91 = .ok (.ireturn, 1) := by decide +kernel
theorem dX8_learnerOf_0 : decode cX8_learnerOf 0 = .ok (.aload_n 0, 1) := by decide +kernel
theorem dX8_learnerOf_1 : decode cX8_learnerOf 1 = .ok (.iload_n 1, 1) := by decide +kernel
theorem dX8_learnerOf_2 : decode cX8_learnerOf 2 = .ok (.invokevirtual 114, 3) := by decide +kernel
theorem dX8_learnerOf_5 : decode cX8_learnerOf 5 = .ok (.ifCond .ne 9, 3) := by decide +kernel
theorem dX8_learnerOf_8 : decode cX8_learnerOf 8 = .ok (.aload_n 0, 1) := by decide +kernel
theorem dX8_learnerOf_9 : decode cX8_learnerOf 9 = .ok (.iconst (-1), 1) := by decide +kernel
theorem dX8_learnerOf_10 : decode cX8_learnerOf 10 = .ok (.invokevirtual 77, 3) := by decide +kernel
theorem dX8_learnerOf_13 : decode cX8_learnerOf 13 = .ok (.ireturn, 1) := by decide +kernel
theorem dX8_learnerOf_14 : decode cX8_learnerOf 14 = .ok (.iload_n 2, 1) := by decide +kernel
theorem dX8_learnerOf_15 : decode cX8_learnerOf 15 = .ok (.ifCond .ne 12, 3) := by decide +kernel
theorem dX8_learnerOf_18 : decode cX8_learnerOf 18 = .ok (.aload_n 0, 1) := by decide +kernel
theorem dX8_learnerOf_19 : decode cX8_learnerOf 19 = .ok (.getfield 25, 3) := by decide +kernel
theorem dX8_learnerOf_22 : decode cX8_learnerOf 22 = .ok (.iload_n 1, 1) := by decide +kernel
theorem dX8_learnerOf_23 : decode cX8_learnerOf 23 = .ok (.iaload, 1) := by decide +kernel
theorem dX8_learnerOf_24 : decode cX8_learnerOf 24 = .ok (.goto 23, 3) := by decide +kernel
theorem dX8_learnerOf_27 : decode cX8_learnerOf 27 = .ok (.iload_n 2, 1) := by decide +kernel
theorem dX8_learnerOf_28 : decode cX8_learnerOf 28 = .ok (.iconst 1, 1) := by decide +kernel
theorem dX8_learnerOf_29 : decode cX8_learnerOf 29 = .ok (.if_icmp .ne 12, 3) := by decide +kernel
theorem dX8_learnerOf_32 : decode cX8_learnerOf 32 = .ok (.aload_n 0, 1) := by decide +kernel
theorem dX8_learnerOf_33 : decode cX8_learnerOf 33 = .ok (.getfield 28, 3) := by decide +kernel
theorem dX8_learnerOf_36 : decode cX8_learnerOf 36 = .ok (.iload_n 1, 1) := by decide +kernel
theorem dX8_learnerOf_37 : decode cX8_learnerOf 37 = .ok (.iaload, 1) := by decide +kernel
theorem dX8_learnerOf_38 : decode cX8_learnerOf 38 = .ok (.goto 9, 3) := by decide +kernel
theorem dX8_learnerOf_41 : decode cX8_learnerOf 41 = .ok (.aload_n 0, 1) := by decide +kernel
theorem dX8_learnerOf_42 : decode cX8_learnerOf 42 = .ok (.bipush (-2), 2) := by decide +kernel
theorem dX8_learnerOf_44 : decode cX8_learnerOf 44 = .ok (.invokevirtual 77, 3) := by decide +kernel
theorem dX8_learnerOf_47 : decode cX8_learnerOf 47 = .ok (.ireturn, 1) := by decide +kernel
theorem dX8_street_0 : decode cX8_street 0 = .ok (.iload_n 1, 1) := by decide +kernel
theorem dX8_street_1 : decode cX8_street 1 = .ok (.iconst 0, 1) := by decide +kernel
theorem dX8_street_2 : decode cX8_street 2 = .ok (.iconst 5, 1) := by decide +kernel
theorem dX8_street_3 : decode cX8_street 3 = .ok (.invokestatic 88, 3) := by decide +kernel
theorem dX8_street_6 : decode cX8_street 6 = .ok (.ifCond .ne 8, 3) := by decide +kernel
theorem dX8_street_9 : decode cX8_street 9 = .ok (.bipush (-2), 2) := by decide +kernel
theorem dX8_street_11 : decode cX8_street 11 = .ok (.goto 44, 3) := by decide +kernel
theorem dX8_street_14 : decode cX8_street 14 = .ok (.iload_n 2, 1) := by decide +kernel
theorem dX8_street_15 : decode cX8_street 15 = .ok (.ifCond .lt 8, 3) := by decide +kernel
theorem dX8_street_18 : decode cX8_street 18 = .ok (.iload_n 3, 1) := by decide +kernel
theorem dX8_street_19 : decode cX8_street 19 = .ok (.iconst 1, 1) := by decide +kernel
theorem dX8_street_20 : decode cX8_street 20 = .ok (.if_icmp .ge 8, 3) := by decide +kernel
theorem dX8_street_23 : decode cX8_street 23 = .ok (.bipush (-4), 2) := by decide +kernel
theorem dX8_street_25 : decode cX8_street 25 = .ok (.goto 30, 3) := by decide +kernel
theorem dX8_street_28 : decode cX8_street 28 = .ok (.iload_n 2, 1) := by decide +kernel
theorem dX8_street_29 : decode cX8_street 29 = .ok (.bipush 9, 2) := by decide +kernel
theorem dX8_street_31 : decode cX8_street 31 = .ok (.if_icmp .gt 18, 3) := by decide +kernel
theorem dX8_street_34 : decode cX8_street 34 = .ok (.iload_n 3, 1) := by decide +kernel
theorem dX8_street_35 : decode cX8_street 35 = .ok (.bipush 9, 2) := by decide +kernel
theorem dX8_street_37 : decode cX8_street 37 = .ok (.if_icmp .gt 12, 3) := by decide +kernel
theorem dX8_street_40 : decode cX8_street 40 = .ok (.aload_n 0, 1) := by decide +kernel
theorem dX8_street_41 : decode cX8_street 41 = .ok (.getfield 61, 3) := by decide +kernel
theorem dX8_street_44 : decode cX8_street 44 = .ok (.bipush 8, 2) := by decide +kernel
theorem dX8_street_46 : decode cX8_street 46 = .ok (.if_icmp .ne 8, 3) := by decide +kernel
theorem dX8_street_49 : decode cX8_street 49 = .ok (.bipush (-6), 2) := by decide +kernel
theorem dX8_street_51 : decode cX8_street 51 = .ok (.goto 4, 3) := by decide +kernel
theorem dX8_street_54 : decode cX8_street 54 = .ok (.iconst 0, 1) := by decide +kernel
theorem dX8_street_55 : decode cX8_street 55 = .ok (.istore 4, 2) := by decide +kernel
theorem dX8_street_57 : decode cX8_street 57 = .ok (.iload 4, 2) := by decide +kernel
theorem dX8_street_59 : decode cX8_street 59 = .ok (.ifCond .eq 10, 3) := by decide +kernel
theorem dX8_street_62 : decode cX8_street 62 = .ok (.aload_n 0, 1) := by decide +kernel
theorem dX8_street_63 : decode cX8_street 63 = .ok (.iload 4, 2) := by decide +kernel
theorem dX8_street_65 : decode cX8_street 65 = .ok (.invokevirtual 77, 3) := by decide +kernel
theorem dX8_street_68 : decode cX8_street 68 = .ok (.ireturn, 1) := by decide +kernel
theorem dX8_street_69 : decode cX8_street 69 = .ok (.aload_n 0, 1) := by decide +kernel
theorem dX8_street_70 : decode cX8_street 70 = .ok (.iconst 0, 1) := by decide +kernel
theorem dX8_street_71 : decode cX8_street 71 = .ok (.putfield 149, 3) := by decide +kernel
theorem dX8_street_74 : decode cX8_street 74 = .ok (.aload_n 0, 1) := by decide +kernel
theorem dX8_street_75 : decode cX8_street 75 = .ok (.iload_n 1, 1) := by decide +kernel
theorem dX8_street_76 : decode cX8_street 76 = .ok (.iload_n 2, 1) := by decide +kernel
theorem dX8_street_77 : decode cX8_street 77 = .ok (.iload_n 3, 1) := by decide +kernel
theorem dX8_street_78 : decode cX8_street 78 = .ok (.invokevirtual 106, 3) := by decide +kernel
theorem dX8_street_81 : decode cX8_street 81 = .ok (.aload_n 0, 1) := by decide +kernel
theorem dX8_street_82 : decode cX8_street 82 = .ok (.getfield 61, 3) := by decide +kernel
theorem dX8_street_85 : decode cX8_street 85 = .ok (.iconst 1, 1) := by decide +kernel
theorem dX8_street_86 : decode cX8_street 86 = .ok (.isub, 1) := by decide +kernel
theorem dX8_street_87 : decode cX8_street 87 = .ok (.ireturn, 1) := by decide +kernel
theorem dX8_way_0 : decode cX8_way 0 = .ok (.iload_n 1, 1) := by decide +kernel
theorem dX8_way_1 : decode cX8_way 1 = .ok (.iconst 1, 1) := by decide +kernel
theorem dX8_way_2 : decode cX8_way 2 = .ok (.if_icmp .ge 8, 3) := by decide +kernel
theorem dX8_way_5 : decode cX8_way 5 = .ok (.bipush (-4), 2) := by decide +kernel
theorem dX8_way_7 : decode cX8_way 7 = .ok (.goto 28, 3) := by decide +kernel
theorem dX8_way_10 : decode cX8_way 10 = .ok (.iload_n 1, 1) := by decide +kernel
theorem dX8_way_11 : decode cX8_way 11 = .ok (.iconst 1, 1) := by decide +kernel
theorem dX8_way_12 : decode cX8_way 12 = .ok (.aload_n 0, 1) := by decide +kernel
theorem dX8_way_13 : decode cX8_way 13 = .ok (.getfield 61, 3) := by decide +kernel
theorem dX8_way_16 : decode cX8_way 16 = .ok (.ishl, 1) := by decide +kernel
theorem dX8_way_17 : decode cX8_way 17 = .ok (.if_icmp .ge 12, 3) := by decide +kernel
theorem dX8_way_20 : decode cX8_way 20 = .ok (.aload_n 0, 1) := by decide +kernel
theorem dX8_way_21 : decode cX8_way 21 = .ok (.getfield 64, 3) := by decide +kernel
theorem dX8_way_24 : decode cX8_way 24 = .ok (.bipush 6, 2) := by decide +kernel
theorem dX8_way_26 : decode cX8_way 26 = .ok (.if_icmp .ne 8, 3) := by decide +kernel
theorem dX8_way_29 : decode cX8_way 29 = .ok (.bipush (-6), 2) := by decide +kernel
theorem dX8_way_31 : decode cX8_way 31 = .ok (.goto 4, 3) := by decide +kernel
theorem dX8_way_34 : decode cX8_way 34 = .ok (.iconst 0, 1) := by decide +kernel
theorem dX8_way_35 : decode cX8_way 35 = .ok (.istore_n 2, 1) := by decide +kernel
theorem dX8_way_36 : decode cX8_way 36 = .ok (.iload_n 2, 1) := by decide +kernel
theorem dX8_way_37 : decode cX8_way 37 = .ok (.ifCond .eq 9, 3) := by decide +kernel
theorem dX8_way_40 : decode cX8_way 40 = .ok (.aload_n 0, 1) := by decide +kernel
theorem dX8_way_41 : decode cX8_way 41 = .ok (.iload_n 2, 1) := by decide +kernel
theorem dX8_way_42 : decode cX8_way 42 = .ok (.invokevirtual 77, 3) := by decide +kernel
theorem dX8_way_45 : decode cX8_way 45 = .ok (.ireturn, 1) := by decide +kernel
theorem dX8_way_46 : decode cX8_way 46 = .ok (.aload_n 0, 1) := by decide +kernel
theorem dX8_way_47 : decode cX8_way 47 = .ok (.iconst 0, 1) := by decide +kernel
theorem dX8_way_48 : decode cX8_way 48 = .ok (.putfield 149, 3) := by decide +kernel
theorem dX8_way_51 : decode cX8_way 51 = .ok (.aload_n 0, 1) := by decide +kernel
theorem dX8_way_52 : decode cX8_way 52 = .ok (.getfield 22, 3) := by decide +kernel
theorem dX8_way_55 : decode cX8_way 55 = .ok (.aload_n 0, 1) := by decide +kernel
theorem dX8_way_56 : decode cX8_way 56 = .ok (.getfield 64, 3) := by decide +kernel
theorem dX8_way_59 : decode cX8_way 59 = .ok (.iload_n 1, 1) := by decide +kernel
theorem dX8_way_60 : decode cX8_way 60 = .ok (.iastore, 1) := by decide +kernel
theorem dX8_way_61 : decode cX8_way 61 = .ok (.aload_n 0, 1) := by decide +kernel
theorem dX8_way_62 : decode cX8_way 62 = .ok (.dup, 1) := by decide +kernel
theorem dX8_way_63 : decode cX8_way 63 = .ok (.getfield 64, 3) := by decide +kernel
theorem dX8_way_66 : decode cX8_way 66 = .ok (.iconst 1, 1) := by decide +kernel
theorem dX8_way_67 : decode cX8_way 67 = .ok (.iadd, 1) := by decide +kernel
theorem dX8_way_68 : decode cX8_way 68 = .ok (.putfield 64, 3) := by decide +kernel
theorem dX8_way_71 : decode cX8_way 71 = .ok (.aload_n 0, 1) := by decide +kernel
theorem dX8_way_72 : decode cX8_way 72 = .ok (.getfield 64, 3) := by decide +kernel
theorem dX8_way_75 : decode cX8_way 75 = .ok (.iconst 1, 1) := by decide +kernel
theorem dX8_way_76 : decode cX8_way 76 = .ok (.isub, 1) := by decide +kernel
theorem dX8_way_77 : decode cX8_way 77 = .ok (.ireturn, 1) := by decide +kernel
theorem dX8_learner_0 : decode cX8_learner 0 = .ok (.iload_n 1, 1) := by decide +kernel
theorem dX8_learner_1 : decode cX8_learner 1 = .ok (.iconst 0, 1) := by decide +kernel
theorem dX8_learner_2 : decode cX8_learner 2 = .ok (.bipush 9, 2) := by decide +kernel
theorem dX8_learner_4 : decode cX8_learner 4 = .ok (.invokestatic 70, 3) := by decide +kernel
theorem dX8_learner_7 : decode cX8_learner 7 = .ok (.istore_n 2, 1) := by decide +kernel
theorem dX8_learner_8 : decode cX8_learner 8 = .ok (.iload_n 2, 1) := by decide +kernel
theorem dX8_learner_9 : decode cX8_learner 9 = .ok (.ifCond .ne 14, 3) := by decide +kernel
theorem dX8_learner_12 : decode cX8_learner 12 = .ok (.aload_n 0, 1) := by decide +kernel
theorem dX8_learner_13 : decode cX8_learner 13 = .ok (.getfield 67, 3) := by decide +kernel
theorem dX8_learner_16 : decode cX8_learner 16 = .ok (.iconst 5, 1) := by decide +kernel
theorem dX8_learner_17 : decode cX8_learner 17 = .ok (.if_icmp .ne 6, 3) := by decide +kernel
theorem dX8_learner_20 : decode cX8_learner 20 = .ok (.bipush (-6), 2) := by decide +kernel
theorem dX8_learner_22 : decode cX8_learner 22 = .ok (.istore_n 2, 1) := by decide +kernel
theorem dX8_learner_23 : decode cX8_learner 23 = .ok (.iload_n 2, 1) := by decide +kernel
theorem dX8_learner_24 : decode cX8_learner 24 = .ok (.ifCond .eq 9, 3) := by decide +kernel
theorem dX8_learner_27 : decode cX8_learner 27 = .ok (.aload_n 0, 1) := by decide +kernel
theorem dX8_learner_28 : decode cX8_learner 28 = .ok (.iload_n 2, 1) := by decide +kernel
theorem dX8_learner_29 : decode cX8_learner 29 = .ok (.invokevirtual 77, 3) := by decide +kernel
theorem dX8_learner_32 : decode cX8_learner 32 = .ok (.ireturn, 1) := by decide +kernel
theorem dX8_learner_33 : decode cX8_learner 33 = .ok (.aload_n 0, 1) := by decide +kernel
theorem dX8_learner_34 : decode cX8_learner 34 = .ok (.iconst 0, 1) := by decide +kernel
theorem dX8_learner_35 : decode cX8_learner 35 = .ok (.putfield 149, 3) := by decide +kernel
theorem dX8_learner_38 : decode cX8_learner 38 = .ok (.aload_n 0, 1) := by decide +kernel
theorem dX8_learner_39 : decode cX8_learner 39 = .ok (.iload_n 1, 1) := by decide +kernel
theorem dX8_learner_40 : decode cX8_learner 40 = .ok (.invokevirtual 110, 3) := by decide +kernel
theorem dX8_learner_43 : decode cX8_learner 43 = .ok (.aload_n 0, 1) := by decide +kernel
theorem dX8_learner_44 : decode cX8_learner 44 = .ok (.getfield 67, 3) := by decide +kernel
theorem dX8_learner_47 : decode cX8_learner 47 = .ok (.iconst 1, 1) := by decide +kernel
theorem dX8_learner_48 : decode cX8_learner 48 = .ok (.isub, 1) := by decide +kernel
theorem dX8_learner_49 : decode cX8_learner 49 = .ok (.ireturn, 1) := by decide +kernel
theorem dX8_tests_0 : decode cX8_tests 0 = .ok (.aload_n 0, 1) := by decide +kernel
theorem dX8_tests_1 : decode cX8_tests 1 = .ok (.iload_n 1, 1) := by decide +kernel
theorem dX8_tests_2 : decode cX8_tests 2 = .ok (.invokevirtual 114, 3) := by decide +kernel
theorem dX8_tests_5 : decode cX8_tests 5 = .ok (.ifCond .eq 11, 3) := by decide +kernel
theorem dX8_tests_8 : decode cX8_tests 8 = .ok (.aload_n 0, 1) := by decide +kernel
theorem dX8_tests_9 : decode cX8_tests 9 = .ok (.iload_n 2, 1) := by decide +kernel
theorem dX8_tests_10 : decode cX8_tests 10 = .ok (.invokevirtual 120, 3) := by decide +kernel
theorem dX8_tests_13 : decode cX8_tests 13 = .ok (.ifCond .ne 9, 3) := by decide +kernel
theorem dX8_tests_16 : decode cX8_tests 16 = .ok (.aload_n 0, 1) := by decide +kernel
theorem dX8_tests_17 : decode cX8_tests 17 = .ok (.iconst (-1), 1) := by decide +kernel
theorem dX8_tests_18 : decode cX8_tests 18 = .ok (.invokevirtual 77, 3) := by decide +kernel
theorem dX8_tests_21 : decode cX8_tests 21 = .ok (.ireturn, 1) := by decide +kernel
theorem dX8_tests_22 : decode cX8_tests 22 = .ok (.aload_n 0, 1) := by decide +kernel
theorem dX8_tests_23 : decode cX8_tests 23 = .ok (.invokevirtual 191, 3) := by decide +kernel
theorem dX8_tests_26 : decode cX8_tests 26 = .ok (.aload_n 0, 1) := by decide +kernel
theorem dX8_tests_27 : decode cX8_tests 27 = .ok (.iload_n 1, 1) := by decide +kernel
theorem dX8_tests_28 : decode cX8_tests 28 = .ok (.iload_n 2, 1) := by decide +kernel
theorem dX8_tests_29 : decode cX8_tests 29 = .ok (.aload_n 0, 1) := by decide +kernel
theorem dX8_tests_30 : decode cX8_tests 30 = .ok (.getfield 52, 3) := by decide +kernel
theorem dX8_tests_33 : decode cX8_tests 33 = .ok (.invokevirtual 185, 3) := by decide +kernel
theorem dX8_tests_36 : decode cX8_tests 36 = .ok (.ifCond .eq 7, 3) := by decide +kernel
theorem dX8_tests_39 : decode cX8_tests 39 = .ok (.iconst 1, 1) := by decide +kernel
theorem dX8_tests_40 : decode cX8_tests 40 = .ok (.goto 4, 3) := by decide +kernel
theorem dX8_tests_43 : decode cX8_tests 43 = .ok (.iconst 0, 1) := by decide +kernel
theorem dX8_tests_44 : decode cX8_tests 44 = .ok (.istore_n 3, 1) := by decide +kernel
theorem dX8_tests_45 : decode cX8_tests 45 = .ok (.aload_n 0, 1) := by decide +kernel
theorem dX8_tests_46 : decode cX8_tests 46 = .ok (.getfield 28, 3) := by decide +kernel
theorem dX8_tests_49 : decode cX8_tests 49 = .ok (.iload_n 1, 1) := by decide +kernel
theorem dX8_tests_50 : decode cX8_tests 50 = .ok (.dup2, 1) := by decide +kernel
theorem dX8_tests_51 : decode cX8_tests 51 = .ok (.iaload, 1) := by decide +kernel
theorem dX8_tests_52 : decode cX8_tests 52 = .ok (.aload_n 0, 1) := by decide +kernel
theorem dX8_tests_53 : decode cX8_tests 53 = .ok (.getfield 22, 3) := by decide +kernel
theorem dX8_tests_56 : decode cX8_tests 56 = .ok (.iload_n 2, 1) := by decide +kernel
theorem dX8_tests_57 : decode cX8_tests 57 = .ok (.iaload, 1) := by decide +kernel
theorem dX8_tests_58 : decode cX8_tests 58 = .ok (.ior, 1) := by decide +kernel
theorem dX8_tests_59 : decode cX8_tests 59 = .ok (.iastore, 1) := by decide +kernel
theorem dX8_tests_60 : decode cX8_tests 60 = .ok (.iload_n 3, 1) := by decide +kernel
theorem dX8_tests_61 : decode cX8_tests 61 = .ok (.ireturn, 1) := by decide +kernel
theorem dX8_knows_0 : decode cX8_knows 0 = .ok (.aload_n 0, 1) := by decide +kernel
theorem dX8_knows_1 : decode cX8_knows 1 = .ok (.iload_n 1, 1) := by decide +kernel
theorem dX8_knows_2 : decode cX8_knows 2 = .ok (.invokevirtual 114, 3) := by decide +kernel
theorem dX8_knows_5 : decode cX8_knows 5 = .ok (.ifCond .eq 11, 3) := by decide +kernel
theorem dX8_knows_8 : decode cX8_knows 8 = .ok (.aload_n 0, 1) := by decide +kernel
theorem dX8_knows_9 : decode cX8_knows 9 = .ok (.iload_n 2, 1) := by decide +kernel
theorem dX8_knows_10 : decode cX8_knows 10 = .ok (.invokevirtual 117, 3) := by decide +kernel
theorem dX8_knows_13 : decode cX8_knows 13 = .ok (.ifCond .ne 9, 3) := by decide +kernel
theorem dX8_knows_16 : decode cX8_knows 16 = .ok (.aload_n 0, 1) := by decide +kernel
theorem dX8_knows_17 : decode cX8_knows 17 = .ok (.iconst (-1), 1) := by decide +kernel
theorem dX8_knows_18 : decode cX8_knows 18 = .ok (.invokevirtual 77, 3) := by decide +kernel
theorem dX8_knows_21 : decode cX8_knows 21 = .ok (.ireturn, 1) := by decide +kernel
theorem dX8_knows_22 : decode cX8_knows 22 = .ok (.aload_n 0, 1) := by decide +kernel
theorem dX8_knows_23 : decode cX8_knows 23 = .ok (.invokevirtual 191, 3) := by decide +kernel
theorem dX8_knows_26 : decode cX8_knows 26 = .ok (.aload_n 0, 1) := by decide +kernel
theorem dX8_knows_27 : decode cX8_knows 27 = .ok (.getfield 28, 3) := by decide +kernel
theorem dX8_knows_30 : decode cX8_knows 30 = .ok (.iload_n 1, 1) := by decide +kernel
theorem dX8_knows_31 : decode cX8_knows 31 = .ok (.dup2, 1) := by decide +kernel
theorem dX8_knows_32 : decode cX8_knows 32 = .ok (.iaload, 1) := by decide +kernel
theorem dX8_knows_33 : decode cX8_knows 33 = .ok (.iconst 1, 1) := by decide +kernel
theorem dX8_knows_34 : decode cX8_knows 34 = .ok (.iload_n 2, 1) := by decide +kernel
theorem dX8_knows_35 : decode cX8_knows 35 = .ok (.ishl, 1) := by decide +kernel
theorem dX8_knows_36 : decode cX8_knows 36 = .ok (.ixor, 1) := by decide +kernel
theorem dX8_knows_37 : decode cX8_knows 37 = .ok (.iastore, 1) := by decide +kernel
theorem dX8_knows_38 : decode cX8_knows 38 = .ok (.aload_n 0, 1) := by decide +kernel
theorem dX8_knows_39 : decode cX8_knows 39 = .ok (.getfield 28, 3) := by decide +kernel
theorem dX8_knows_42 : decode cX8_knows 42 = .ok (.iload_n 1, 1) := by decide +kernel
theorem dX8_knows_43 : decode cX8_knows 43 = .ok (.iaload, 1) := by decide +kernel
theorem dX8_knows_44 : decode cX8_knows 44 = .ok (.iload_n 2, 1) := by decide +kernel
theorem dX8_knows_45 : decode cX8_knows 45 = .ok (.ishr, 1) := by decide +kernel
theorem dX8_knows_46 : decode cX8_knows 46 = .ok (.iconst 1, 1) := by decide +kernel
theorem dX8_knows_47 : decode cX8_knows 47 = .ok (.iand, 1) := by decide +kernel
theorem dX8_knows_48 : decode cX8_knows 48 = .ok (.ireturn, 1) := by decide +kernel
theorem dX8_sets_0 : decode cX8_sets 0 = .ok (.iload_n 1, 1) := by decide +kernel
theorem dX8_sets_1 : decode cX8_sets 1 = .ok (.iconst 0, 1) := by decide +kernel
theorem dX8_sets_2 : decode cX8_sets 2 = .ok (.iconst 1, 1) := by decide +kernel
theorem dX8_sets_3 : decode cX8_sets 3 = .ok (.invokestatic 88, 3) := by decide +kernel
theorem dX8_sets_6 : decode cX8_sets 6 = .ok (.ifCond .ne 8, 3) := by decide +kernel
theorem dX8_sets_9 : decode cX8_sets 9 = .ok (.bipush (-2), 2) := by decide +kernel
theorem dX8_sets_11 : decode cX8_sets 11 = .ok (.goto 19, 3) := by decide +kernel
theorem dX8_sets_14 : decode cX8_sets 14 = .ok (.iload_n 2, 1) := by decide +kernel
theorem dX8_sets_15 : decode cX8_sets 15 = .ok (.iconst 0, 1) := by decide +kernel
theorem dX8_sets_16 : decode cX8_sets 16 = .ok (.iload_n 1, 1) := by decide +kernel
theorem dX8_sets_17 : decode cX8_sets 17 = .ok (.ifCond .ne 8, 3) := by decide +kernel
theorem dX8_sets_20 : decode cX8_sets 20 = .ok (.bipush 23, 2) := by decide +kernel
theorem dX8_sets_22 : decode cX8_sets 22 = .ok (.goto 5, 3) := by decide +kernel
theorem dX8_sets_25 : decode cX8_sets 25 = .ok (.bipush 99, 2) := by decide +kernel
theorem dX8_sets_27 : decode cX8_sets 27 = .ok (.invokestatic 70, 3) := by decide +kernel
theorem dX8_sets_30 : decode cX8_sets 30 = .ok (.istore_n 3, 1) := by decide +kernel
theorem dX8_sets_31 : decode cX8_sets 31 = .ok (.iload_n 3, 1) := by decide +kernel
theorem dX8_sets_32 : decode cX8_sets 32 = .ok (.ifCond .eq 9, 3) := by decide +kernel
theorem dX8_sets_35 : decode cX8_sets 35 = .ok (.aload_n 0, 1) := by decide +kernel
theorem dX8_sets_36 : decode cX8_sets 36 = .ok (.iload_n 3, 1) := by decide +kernel
theorem dX8_sets_37 : decode cX8_sets 37 = .ok (.invokevirtual 77, 3) := by decide +kernel
theorem dX8_sets_40 : decode cX8_sets 40 = .ok (.ireturn, 1) := by decide +kernel
theorem dX8_sets_41 : decode cX8_sets 41 = .ok (.aload_n 0, 1) := by decide +kernel
theorem dX8_sets_42 : decode cX8_sets 42 = .ok (.invokevirtual 191, 3) := by decide +kernel
theorem dX8_sets_45 : decode cX8_sets 45 = .ok (.iload_n 1, 1) := by decide +kernel
theorem dX8_sets_46 : decode cX8_sets 46 = .ok (.ifCond .ne 10, 3) := by decide +kernel
theorem dX8_sets_49 : decode cX8_sets 49 = .ok (.aload_n 0, 1) := by decide +kernel
theorem dX8_sets_50 : decode cX8_sets 50 = .ok (.getfield 52, 3) := by decide +kernel
theorem dX8_sets_53 : decode cX8_sets 53 = .ok (.goto 7, 3) := by decide +kernel
theorem dX8_sets_56 : decode cX8_sets 56 = .ok (.aload_n 0, 1) := by decide +kernel
theorem dX8_sets_57 : decode cX8_sets 57 = .ok (.getfield 56, 3) := by decide +kernel
theorem dX8_sets_60 : decode cX8_sets 60 = .ok (.istore 4, 2) := by decide +kernel
theorem dX8_sets_62 : decode cX8_sets 62 = .ok (.iload_n 1, 1) := by decide +kernel
theorem dX8_sets_63 : decode cX8_sets 63 = .ok (.ifCond .ne 11, 3) := by decide +kernel
theorem dX8_sets_66 : decode cX8_sets 66 = .ok (.aload_n 0, 1) := by decide +kernel
theorem dX8_sets_67 : decode cX8_sets 67 = .ok (.iload_n 2, 1) := by decide +kernel
theorem dX8_sets_68 : decode cX8_sets 68 = .ok (.putfield 52, 3) := by decide +kernel
theorem dX8_sets_71 : decode cX8_sets 71 = .ok (.goto 8, 3) := by decide +kernel
theorem dX8_sets_74 : decode cX8_sets 74 = .ok (.aload_n 0, 1) := by decide +kernel
theorem dX8_sets_75 : decode cX8_sets 75 = .ok (.iload_n 2, 1) := by decide +kernel
theorem dX8_sets_76 : decode cX8_sets 76 = .ok (.putfield 56, 3) := by decide +kernel
theorem dX8_sets_79 : decode cX8_sets 79 = .ok (.iload 4, 2) := by decide +kernel
theorem dX8_sets_81 : decode cX8_sets 81 = .ok (.ireturn, 1) := by decide +kernel
theorem dX8_day_0 : decode cX8_day 0 = .ok (.aload_n 0, 1) := by decide +kernel
theorem dX8_day_1 : decode cX8_day 1 = .ok (.getfield 129, 3) := by decide +kernel
theorem dX8_day_4 : decode cX8_day 4 = .ok (.sipush 999, 3) := by decide +kernel
theorem dX8_day_7 : decode cX8_day 7 = .ok (.if_icmp .ne 10, 3) := by decide +kernel
theorem dX8_day_10 : decode cX8_day 10 = .ok (.aload_n 0, 1) := by decide +kernel
theorem dX8_day_11 : decode cX8_day 11 = .ok (.bipush (-6), 2) := by decide +kernel
theorem dX8_day_13 : decode cX8_day 13 = .ok (.invokevirtual 77, 3) := by decide +kernel
theorem dX8_day_16 : decode cX8_day 16 = .ok (.ireturn, 1) := by decide +kernel
theorem dX8_day_17 : decode cX8_day 17 = .ok (.aload_n 0, 1) := by decide +kernel
theorem dX8_day_18 : decode cX8_day 18 = .ok (.invokevirtual 191, 3) := by decide +kernel
theorem dX8_day_21 : decode cX8_day 21 = .ok (.aload_n 0, 1) := by decide +kernel
theorem dX8_day_22 : decode cX8_day 22 = .ok (.invokevirtual 132, 3) := by decide +kernel
theorem dX8_day_25 : decode cX8_day 25 = .ok (.aload_n 0, 1) := by decide +kernel
theorem dX8_day_26 : decode cX8_day 26 = .ok (.getfield 129, 3) := by decide +kernel
theorem dX8_day_29 : decode cX8_day 29 = .ok (.ireturn, 1) := by decide +kernel
theorem dX8_minutesOf_0 : decode cX8_minutesOf 0 = .ok (.iconst 0, 1) := by decide +kernel
theorem dX8_minutesOf_1 : decode cX8_minutesOf 1 = .ok (.istore_n 2, 1) := by decide +kernel
theorem dX8_minutesOf_2 : decode cX8_minutesOf 2 = .ok (.iconst 0, 1) := by decide +kernel
theorem dX8_minutesOf_3 : decode cX8_minutesOf 3 = .ok (.istore_n 3, 1) := by decide +kernel
theorem dX8_minutesOf_4 : decode cX8_minutesOf 4 = .ok (.iload_n 3, 1) := by decide +kernel
theorem dX8_minutesOf_5 : decode cX8_minutesOf 5 = .ok (.aload_n 0, 1) := by decide +kernel
theorem dX8_minutesOf_6 : decode cX8_minutesOf 6 = .ok (.getfield 61, 3) := by decide +kernel
theorem dX8_minutesOf_9 : decode cX8_minutesOf 9 = .ok (.if_icmp .ge 30, 3) := by decide +kernel
theorem dX8_minutesOf_12 : decode cX8_minutesOf 12 = .ok (.iload_n 2, 1) := by decide +kernel
theorem dX8_minutesOf_13 : decode cX8_minutesOf 13 = .ok (.iload_n 1, 1) := by decide +kernel
theorem dX8_minutesOf_14 : decode cX8_minutesOf 14 = .ok (.iload_n 3, 1) := by decide +kernel
theorem dX8_minutesOf_15 : decode cX8_minutesOf 15 = .ok (.invokestatic 173, 3) := by decide +kernel
theorem dX8_minutesOf_18 : decode cX8_minutesOf 18 = .ok (.ifCond .eq 12, 3) := by decide +kernel
theorem dX8_minutesOf_21 : decode cX8_minutesOf 21 = .ok (.aload_n 0, 1) := by decide +kernel
theorem dX8_minutesOf_22 : decode cX8_minutesOf 22 = .ok (.getfield 19, 3) := by decide +kernel
theorem dX8_minutesOf_25 : decode cX8_minutesOf 25 = .ok (.iload_n 3, 1) := by decide +kernel
theorem dX8_minutesOf_26 : decode cX8_minutesOf 26 = .ok (.iaload, 1) := by decide +kernel
theorem dX8_minutesOf_27 : decode cX8_minutesOf 27 = .ok (.goto 4, 3) := by decide +kernel
theorem dX8_minutesOf_30 : decode cX8_minutesOf 30 = .ok (.iconst 0, 1) := by decide +kernel
theorem dX8_minutesOf_31 : decode cX8_minutesOf 31 = .ok (.iadd, 1) := by decide +kernel
theorem dX8_minutesOf_32 : decode cX8_minutesOf 32 = .ok (.istore_n 2, 1) := by decide +kernel
theorem dX8_minutesOf_33 : decode cX8_minutesOf 33 = .ok (.iinc 3 1, 3) := by decide +kernel
theorem dX8_minutesOf_36 : decode cX8_minutesOf 36 = .ok (.goto (-32), 3) := by decide +kernel
theorem dX8_minutesOf_39 : decode cX8_minutesOf 39 = .ok (.iload_n 2, 1) := by decide +kernel
theorem dX8_minutesOf_40 : decode cX8_minutesOf 40 = .ok (.ireturn, 1) := by decide +kernel
theorem dX8_hardOn_0 : decode cX8_hardOn 0 = .ok (.iconst 0, 1) := by decide +kernel
theorem dX8_hardOn_1 : decode cX8_hardOn 1 = .ok (.istore_n 3, 1) := by decide +kernel
theorem dX8_hardOn_2 : decode cX8_hardOn 2 = .ok (.iconst 0, 1) := by decide +kernel
theorem dX8_hardOn_3 : decode cX8_hardOn 3 = .ok (.istore 4, 2) := by decide +kernel
theorem dX8_hardOn_5 : decode cX8_hardOn 5 = .ok (.iload 4, 2) := by decide +kernel
theorem dX8_hardOn_7 : decode cX8_hardOn 7 = .ok (.aload_n 0, 1) := by decide +kernel
theorem dX8_hardOn_8 : decode cX8_hardOn 8 = .ok (.getfield 61, 3) := by decide +kernel
theorem dX8_hardOn_11 : decode cX8_hardOn 11 = .ok (.if_icmp .ge 32, 3) := by decide +kernel
theorem dX8_hardOn_14 : decode cX8_hardOn 14 = .ok (.iload_n 3, 1) := by decide +kernel
theorem dX8_hardOn_15 : decode cX8_hardOn 15 = .ok (.iload_n 1, 1) := by decide +kernel
theorem dX8_hardOn_16 : decode cX8_hardOn 16 = .ok (.iload 4, 2) := by decide +kernel
theorem dX8_hardOn_18 : decode cX8_hardOn 18 = .ok (.invokestatic 173, 3) := by decide +kernel
theorem dX8_hardOn_21 : decode cX8_hardOn 21 = .ok (.ifCond .eq 13, 3) := by decide +kernel
theorem dX8_hardOn_24 : decode cX8_hardOn 24 = .ok (.aload_n 0, 1) := by decide +kernel
theorem dX8_hardOn_25 : decode cX8_hardOn 25 = .ok (.iload 4, 2) := by decide +kernel
theorem dX8_hardOn_27 : decode cX8_hardOn 27 = .ok (.iload_n 2, 1) := by decide +kernel
theorem dX8_hardOn_28 : decode cX8_hardOn 28 = .ok (.invokevirtual 169, 3) := by decide +kernel
theorem dX8_hardOn_31 : decode cX8_hardOn 31 = .ok (.goto 4, 3) := by decide +kernel
theorem dX8_hardOn_34 : decode cX8_hardOn 34 = .ok (.iconst 0, 1) := by decide +kernel
theorem dX8_hardOn_35 : decode cX8_hardOn 35 = .ok (.iadd, 1) := by decide +kernel
theorem dX8_hardOn_36 : decode cX8_hardOn 36 = .ok (.istore_n 3, 1) := by decide +kernel
theorem dX8_hardOn_37 : decode cX8_hardOn 37 = .ok (.iinc 4 1, 3) := by decide +kernel
theorem dX8_hardOn_40 : decode cX8_hardOn 40 = .ok (.goto (-35), 3) := by decide +kernel
theorem dX8_hardOn_43 : decode cX8_hardOn 43 = .ok (.iload_n 3, 1) := by decide +kernel
theorem dX8_hardOn_44 : decode cX8_hardOn 44 = .ok (.ireturn, 1) := by decide +kernel
theorem dX8_kindsOf_0 : decode cX8_kindsOf 0 = .ok (.iconst 0, 1) := by decide +kernel
theorem dX8_kindsOf_1 : decode cX8_kindsOf 1 = .ok (.istore_n 2, 1) := by decide +kernel
theorem dX8_kindsOf_2 : decode cX8_kindsOf 2 = .ok (.iconst 0, 1) := by decide +kernel
theorem dX8_kindsOf_3 : decode cX8_kindsOf 3 = .ok (.istore_n 3, 1) := by decide +kernel
theorem dX8_kindsOf_4 : decode cX8_kindsOf 4 = .ok (.iload_n 3, 1) := by decide +kernel
theorem dX8_kindsOf_5 : decode cX8_kindsOf 5 = .ok (.aload_n 0, 1) := by decide +kernel
theorem dX8_kindsOf_6 : decode cX8_kindsOf 6 = .ok (.getfield 61, 3) := by decide +kernel
theorem dX8_kindsOf_9 : decode cX8_kindsOf 9 = .ok (.if_icmp .ge 32, 3) := by decide +kernel
theorem dX8_kindsOf_12 : decode cX8_kindsOf 12 = .ok (.iload_n 2, 1) := by decide +kernel
theorem dX8_kindsOf_13 : decode cX8_kindsOf 13 = .ok (.iload_n 1, 1) := by decide +kernel
theorem dX8_kindsOf_14 : decode cX8_kindsOf 14 = .ok (.iload_n 3, 1) := by decide +kernel
theorem dX8_kindsOf_15 : decode cX8_kindsOf 15 = .ok (.invokestatic 173, 3) := by decide +kernel
theorem dX8_kindsOf_18 : decode cX8_kindsOf 18 = .ok (.ifCond .eq 14, 3) := by decide +kernel
theorem dX8_kindsOf_21 : decode cX8_kindsOf 21 = .ok (.iconst 1, 1) := by decide +kernel
theorem dX8_kindsOf_22 : decode cX8_kindsOf 22 = .ok (.aload_n 0, 1) := by decide +kernel
theorem dX8_kindsOf_23 : decode cX8_kindsOf 23 = .ok (.getfield 13, 3) := by decide +kernel
theorem dX8_kindsOf_26 : decode cX8_kindsOf 26 = .ok (.iload_n 3, 1) := by decide +kernel
theorem dX8_kindsOf_27 : decode cX8_kindsOf 27 = .ok (.iaload, 1) := by decide +kernel
theorem dX8_kindsOf_28 : decode cX8_kindsOf 28 = .ok (.ishl, 1) := by decide +kernel
theorem dX8_kindsOf_29 : decode cX8_kindsOf 29 = .ok (.goto 4, 3) := by decide +kernel
theorem dX8_kindsOf_32 : decode cX8_kindsOf 32 = .ok (.iconst 0, 1) := by decide +kernel
theorem dX8_kindsOf_33 : decode cX8_kindsOf 33 = .ok (.ior, 1) := by decide +kernel
theorem dX8_kindsOf_34 : decode cX8_kindsOf 34 = .ok (.istore_n 2, 1) := by decide +kernel
theorem dX8_kindsOf_35 : decode cX8_kindsOf 35 = .ok (.iinc 3 1, 3) := by decide +kernel
theorem dX8_kindsOf_38 : decode cX8_kindsOf 38 = .ok (.goto (-34), 3) := by decide +kernel
theorem dX8_kindsOf_41 : decode cX8_kindsOf 41 = .ok (.iload_n 2, 1) := by decide +kernel
theorem dX8_kindsOf_42 : decode cX8_kindsOf 42 = .ok (.ireturn, 1) := by decide +kernel
theorem dX8_wayOf_0 : decode cX8_wayOf 0 = .ok (.aload_n 0, 1) := by decide +kernel
theorem dX8_wayOf_1 : decode cX8_wayOf 1 = .ok (.iload_n 1, 1) := by decide +kernel
theorem dX8_wayOf_2 : decode cX8_wayOf 2 = .ok (.invokevirtual 120, 3) := by decide +kernel
theorem dX8_wayOf_5 : decode cX8_wayOf 5 = .ok (.ifCond .eq 10, 3) := by decide +kernel
theorem dX8_wayOf_8 : decode cX8_wayOf 8 = .ok (.iload_n 2, 1) := by decide +kernel
theorem dX8_wayOf_9 : decode cX8_wayOf 9 = .ok (.invokestatic 126, 3) := by decide +kernel
theorem dX8_wayOf_12 : decode cX8_wayOf 12 = .ok (.ifCond .ne 9, 3) := by decide +kernel
theorem dX8_wayOf_15 : decode cX8_wayOf 15 = .ok (.aload_n 0, 1) := by decide +kernel
theorem dX8_wayOf_16 : decode cX8_wayOf 16 = .ok (.iconst (-1), 1) := by decide +kernel
theorem dX8_wayOf_17 : decode cX8_wayOf 17 = .ok (.invokevirtual 77, 3) := by decide +kernel
theorem dX8_wayOf_20 : decode cX8_wayOf 20 = .ok (.ireturn, 1) := by decide +kernel
theorem dX8_wayOf_21 : decode cX8_wayOf 21 = .ok (.iload_n 3, 1) := by decide +kernel
theorem dX8_wayOf_22 : decode cX8_wayOf 22 = .ok (.tableswitch 71 0 3 #[30, 37, 48, 60], 30) := by decide +kernel
theorem dX8_wayOf_52 : decode cX8_wayOf 52 = .ok (.aload_n 0, 1) := by decide +kernel
theorem dX8_wayOf_53 : decode cX8_wayOf 53 = .ok (.getfield 22, 3) := by decide +kernel
theorem dX8_wayOf_56 : decode cX8_wayOf 56 = .ok (.iload_n 1, 1) := by decide +kernel
theorem dX8_wayOf_57 : decode cX8_wayOf 57 = .ok (.iaload, 1) := by decide +kernel
theorem dX8_wayOf_58 : decode cX8_wayOf 58 = .ok (.ireturn, 1) := by decide +kernel
theorem dX8_wayOf_59 : decode cX8_wayOf 59 = .ok (.aload_n 0, 1) := by decide +kernel
theorem dX8_wayOf_60 : decode cX8_wayOf 60 = .ok (.aload_n 0, 1) := by decide +kernel
theorem dX8_wayOf_61 : decode cX8_wayOf 61 = .ok (.getfield 22, 3) := by decide +kernel
theorem dX8_wayOf_64 : decode cX8_wayOf 64 = .ok (.iload_n 1, 1) := by decide +kernel
theorem dX8_wayOf_65 : decode cX8_wayOf 65 = .ok (.iaload, 1) := by decide +kernel
theorem dX8_wayOf_66 : decode cX8_wayOf 66 = .ok (.invokevirtual 194, 3) := by decide +kernel
theorem dX8_wayOf_69 : decode cX8_wayOf 69 = .ok (.ireturn, 1) := by decide +kernel
theorem dX8_wayOf_70 : decode cX8_wayOf 70 = .ok (.aload_n 0, 1) := by decide +kernel
theorem dX8_wayOf_71 : decode cX8_wayOf 71 = .ok (.aload_n 0, 1) := by decide +kernel
theorem dX8_wayOf_72 : decode cX8_wayOf 72 = .ok (.getfield 22, 3) := by decide +kernel
theorem dX8_wayOf_75 : decode cX8_wayOf 75 = .ok (.iload_n 1, 1) := by decide +kernel
theorem dX8_wayOf_76 : decode cX8_wayOf 76 = .ok (.iaload, 1) := by decide +kernel
theorem dX8_wayOf_77 : decode cX8_wayOf 77 = .ok (.iload_n 2, 1) := by decide +kernel
theorem dX8_wayOf_78 : decode cX8_wayOf 78 = .ok (.invokevirtual 197, 3) := by decide +kernel
theorem dX8_wayOf_81 : decode cX8_wayOf 81 = .ok (.ireturn, 1) := by decide +kernel
theorem dX8_wayOf_82 : decode cX8_wayOf 82 = .ok (.aload_n 0, 1) := by decide +kernel
theorem dX8_wayOf_83 : decode cX8_wayOf 83 = .ok (.aload_n 0, 1) := by decide +kernel
theorem dX8_wayOf_84 : decode cX8_wayOf 84 = .ok (.getfield 22, 3) := by decide +kernel
theorem dX8_wayOf_87 : decode cX8_wayOf 87 = .ok (.iload_n 1, 1) := by decide +kernel
theorem dX8_wayOf_88 : decode cX8_wayOf 88 = .ok (.iaload, 1) := by decide +kernel
theorem dX8_wayOf_89 : decode cX8_wayOf 89 = .ok (.invokevirtual 200, 3) := by decide +kernel
theorem dX8_wayOf_92 : decode cX8_wayOf 92 = .ok (.ireturn, 1) := by decide +kernel
theorem dX8_wayOf_93 : decode cX8_wayOf 93 = .ok (.aload_n 0, 1) := by decide +kernel
theorem dX8_wayOf_94 : decode cX8_wayOf 94 = .ok (.bipush (-2), 2) := by decide +kernel
theorem dX8_wayOf_96 : decode cX8_wayOf 96 = .ok (.invokevirtual 77, 3) := by decide +kernel
theorem dX8_wayOf_99 : decode cX8_wayOf 99 = .ok (.ireturn, 1) := by decide +kernel
theorem dX8_mostFaults_0 : decode cX8_mostFaults 0 = .ok (.bipush (-9), 2) := by decide +kernel
theorem dX8_mostFaults_2 : decode cX8_mostFaults 2 = .ok (.istore 4, 2) := by decide +kernel
theorem dX8_mostFaults_4 : decode cX8_mostFaults 4 = .ok (.iconst 0, 1) := by decide +kernel
theorem dX8_mostFaults_5 : decode cX8_mostFaults 5 = .ok (.istore 5, 2) := by decide +kernel
theorem dX8_mostFaults_7 : decode cX8_mostFaults 7 = .ok (.iload 5, 2) := by decide +kernel
theorem dX8_mostFaults_9 : decode cX8_mostFaults 9 = .ok (.aload_n 0, 1) := by decide +kernel
theorem dX8_mostFaults_10 : decode cX8_mostFaults 10 = .ok (.getfield 61, 3) := by decide +kernel
theorem dX8_mostFaults_13 : decode cX8_mostFaults 13 = .ok (.if_icmp .ge 51, 3) := by decide +kernel
theorem dX8_mostFaults_16 : decode cX8_mostFaults 16 = .ok (.aload_n 0, 1) := by decide +kernel
theorem dX8_mostFaults_17 : decode cX8_mostFaults 17 = .ok (.getfield 22, 3) := by decide +kernel
theorem dX8_mostFaults_20 : decode cX8_mostFaults 20 = .ok (.iload_n 2, 1) := by decide +kernel
theorem dX8_mostFaults_21 : decode cX8_mostFaults 21 = .ok (.iaload, 1) := by decide +kernel
theorem dX8_mostFaults_22 : decode cX8_mostFaults 22 = .ok (.iload 5, 2) := by decide +kernel
theorem dX8_mostFaults_24 : decode cX8_mostFaults 24 = .ok (.invokestatic 173, 3) := by decide +kernel
theorem dX8_mostFaults_27 : decode cX8_mostFaults 27 = .ok (.ifCond .eq 31, 3) := by decide +kernel
theorem dX8_mostFaults_30 : decode cX8_mostFaults 30 = .ok (.iload 4, 2) := by decide +kernel
theorem dX8_mostFaults_32 : decode cX8_mostFaults 32 = .ok (.ifCond .lt 22, 3) := by decide +kernel
theorem dX8_mostFaults_35 : decode cX8_mostFaults 35 = .ok (.aload_n 0, 1) := by decide +kernel
theorem dX8_mostFaults_36 : decode cX8_mostFaults 36 = .ok (.iload_n 1, 1) := by decide +kernel
theorem dX8_mostFaults_37 : decode cX8_mostFaults 37 = .ok (.iload 5, 2) := by decide +kernel
theorem dX8_mostFaults_39 : decode cX8_mostFaults 39 = .ok (.iload_n 3, 1) := by decide +kernel
theorem dX8_mostFaults_40 : decode cX8_mostFaults 40 = .ok (.invokevirtual 176, 3) := by decide +kernel
theorem dX8_mostFaults_43 : decode cX8_mostFaults 43 = .ok (.aload_n 0, 1) := by decide +kernel
theorem dX8_mostFaults_44 : decode cX8_mostFaults 44 = .ok (.iload_n 1, 1) := by decide +kernel
theorem dX8_mostFaults_45 : decode cX8_mostFaults 45 = .ok (.iload 4, 2) := by decide +kernel
theorem dX8_mostFaults_47 : decode cX8_mostFaults 47 = .ok (.iload_n 3, 1) := by decide +kernel
theorem dX8_mostFaults_48 : decode cX8_mostFaults 48 = .ok (.invokevirtual 176, 3) := by decide +kernel
theorem dX8_mostFaults_51 : decode cX8_mostFaults 51 = .ok (.if_icmp .le 7, 3) := by decide +kernel
theorem dX8_mostFaults_54 : decode cX8_mostFaults 54 = .ok (.iload 5, 2) := by decide +kernel
theorem dX8_mostFaults_56 : decode cX8_mostFaults 56 = .ok (.istore 4, 2) := by decide +kernel
theorem dX8_mostFaults_58 : decode cX8_mostFaults 58 = .ok (.iinc 5 1, 3) := by decide +kernel
theorem dX8_mostFaults_61 : decode cX8_mostFaults 61 = .ok (.goto (-54), 3) := by decide +kernel
theorem dX8_mostFaults_64 : decode cX8_mostFaults 64 = .ok (.iload 4, 2) := by decide +kernel
theorem dX8_mostFaults_66 : decode cX8_mostFaults 66 = .ok (.ireturn, 1) := by decide +kernel
theorem dX8_areAll_0 : decode cX8_areAll 0 = .ok (.aload_n 0, 1) := by decide +kernel
theorem dX8_areAll_1 : decode cX8_areAll 1 = .ok (.iload_n 1, 1) := by decide +kernel
theorem dX8_areAll_2 : decode cX8_areAll 2 = .ok (.invokevirtual 114, 3) := by decide +kernel
theorem dX8_areAll_5 : decode cX8_areAll 5 = .ok (.ifCond .eq 22, 3) := by decide +kernel
theorem dX8_areAll_8 : decode cX8_areAll 8 = .ok (.aload_n 0, 1) := by decide +kernel
theorem dX8_areAll_9 : decode cX8_areAll 9 = .ok (.iload_n 2, 1) := by decide +kernel
theorem dX8_areAll_10 : decode cX8_areAll 10 = .ok (.invokevirtual 120, 3) := by decide +kernel
theorem dX8_areAll_13 : decode cX8_areAll 13 = .ok (.ifCond .eq 14, 3) := by decide +kernel
theorem dX8_areAll_16 : decode cX8_areAll 16 = .ok (.iload_n 3, 1) := by decide +kernel
theorem dX8_areAll_17 : decode cX8_areAll 17 = .ok (.invokestatic 126, 3) := by decide +kernel
theorem dX8_areAll_20 : decode cX8_areAll 20 = .ok (.ifCond .eq 7, 3) := by decide +kernel
theorem dX8_areAll_23 : decode cX8_areAll 23 = .ok (.iconst 1, 1) := by decide +kernel
theorem dX8_areAll_24 : decode cX8_areAll 24 = .ok (.goto 4, 3) := by decide +kernel
theorem dX8_areAll_27 : decode cX8_areAll 27 = .ok (.iconst 0, 1) := by decide +kernel
theorem dX8_areAll_28 : decode cX8_areAll 28 = .ok (.ireturn, 1) := by decide +kernel
theorem dX8_faults_0 : decode cX8_faults 0 = .ok (.aload_n 0, 1) := by decide +kernel
theorem dX8_faults_1 : decode cX8_faults 1 = .ok (.iload_n 1, 1) := by decide +kernel
theorem dX8_faults_2 : decode cX8_faults 2 = .ok (.iload_n 2, 1) := by decide +kernel
theorem dX8_faults_3 : decode cX8_faults 3 = .ok (.iload_n 3, 1) := by decide +kernel
theorem dX8_faults_4 : decode cX8_faults 4 = .ok (.invokevirtual 203, 3) := by decide +kernel
theorem dX8_faults_7 : decode cX8_faults 7 = .ok (.ifCond .ne 7, 3) := by decide +kernel
theorem dX8_faults_10 : decode cX8_faults 10 = .ok (.iconst (-1), 1) := by decide +kernel
theorem dX8_faults_11 : decode cX8_faults 11 = .ok (.goto 19, 3) := by decide +kernel
theorem dX8_faults_14 : decode cX8_faults 14 = .ok (.iload 4, 2) := by decide +kernel
theorem dX8_faults_16 : decode cX8_faults 16 = .ok (.iconst 0, 1) := by decide +kernel
theorem dX8_faults_17 : decode cX8_faults 17 = .ok (.iconst 2, 1) := by decide +kernel
theorem dX8_faults_18 : decode cX8_faults 18 = .ok (.invokestatic 88, 3) := by decide +kernel
theorem dX8_faults_21 : decode cX8_faults 21 = .ok (.ifCond .ne 8, 3) := by decide +kernel
theorem dX8_faults_24 : decode cX8_faults 24 = .ok (.bipush (-2), 2) := by decide +kernel
theorem dX8_faults_26 : decode cX8_faults 26 = .ok (.goto 4, 3) := by decide +kernel
theorem dX8_faults_29 : decode cX8_faults 29 = .ok (.iconst 0, 1) := by decide +kernel
theorem dX8_faults_30 : decode cX8_faults 30 = .ok (.istore 5, 2) := by decide +kernel
theorem dX8_faults_32 : decode cX8_faults 32 = .ok (.iload 5, 2) := by decide +kernel
theorem dX8_faults_34 : decode cX8_faults 34 = .ok (.ifCond .eq 10, 3) := by decide +kernel
theorem dX8_faults_37 : decode cX8_faults 37 = .ok (.aload_n 0, 1) := by decide +kernel
theorem dX8_faults_38 : decode cX8_faults 38 = .ok (.iload 5, 2) := by decide +kernel
theorem dX8_faults_40 : decode cX8_faults 40 = .ok (.invokevirtual 77, 3) := by decide +kernel
theorem dX8_faults_43 : decode cX8_faults 43 = .ok (.ireturn, 1) := by decide +kernel
theorem dX8_faults_44 : decode cX8_faults 44 = .ok (.iload 4, 2) := by decide +kernel
theorem dX8_faults_46 : decode cX8_faults 46 = .ok (.iconst 2, 1) := by decide +kernel
theorem dX8_faults_47 : decode cX8_faults 47 = .ok (.if_icmp .ne 11, 3) := by decide +kernel
theorem dX8_faults_50 : decode cX8_faults 50 = .ok (.aload_n 0, 1) := by decide +kernel
theorem dX8_faults_51 : decode cX8_faults 51 = .ok (.iload_n 1, 1) := by decide +kernel
theorem dX8_faults_52 : decode cX8_faults 52 = .ok (.iload_n 2, 1) := by decide +kernel
theorem dX8_faults_53 : decode cX8_faults 53 = .ok (.iload_n 3, 1) := by decide +kernel
theorem dX8_faults_54 : decode cX8_faults 54 = .ok (.invokevirtual 206, 3) := by decide +kernel
theorem dX8_faults_57 : decode cX8_faults 57 = .ok (.ireturn, 1) := by decide +kernel
theorem dX8_faults_58 : decode cX8_faults 58 = .ok (.iload 4, 2) := by decide +kernel
theorem dX8_faults_60 : decode cX8_faults 60 = .ok (.ifCond .ne 18, 3) := by decide +kernel
theorem dX8_faults_63 : decode cX8_faults 63 = .ok (.aload_n 0, 1) := by decide +kernel
theorem dX8_faults_64 : decode cX8_faults 64 = .ok (.iload_n 1, 1) := by decide +kernel
theorem dX8_faults_65 : decode cX8_faults 65 = .ok (.aload_n 0, 1) := by decide +kernel
theorem dX8_faults_66 : decode cX8_faults 66 = .ok (.getfield 22, 3) := by decide +kernel
theorem dX8_faults_69 : decode cX8_faults 69 = .ok (.iload_n 2, 1) := by decide +kernel
theorem dX8_faults_70 : decode cX8_faults 70 = .ok (.iaload, 1) := by decide +kernel
theorem dX8_faults_71 : decode cX8_faults 71 = .ok (.iload_n 3, 1) := by decide +kernel
theorem dX8_faults_72 : decode cX8_faults 72 = .ok (.invokevirtual 179, 3) := by decide +kernel
theorem dX8_faults_75 : decode cX8_faults 75 = .ok (.goto 18, 3) := by decide +kernel
theorem dX8_faults_78 : decode cX8_faults 78 = .ok (.aload_n 0, 1) := by decide +kernel
theorem dX8_faults_79 : decode cX8_faults 79 = .ok (.iload_n 1, 1) := by decide +kernel
theorem dX8_faults_80 : decode cX8_faults 80 = .ok (.iload_n 2, 1) := by decide +kernel
theorem dX8_faults_81 : decode cX8_faults 81 = .ok (.iload_n 3, 1) := by decide +kernel
theorem dX8_faults_82 : decode cX8_faults 82 = .ok (.invokevirtual 185, 3) := by decide +kernel
theorem dX8_faults_85 : decode cX8_faults 85 = .ok (.ifCond .eq 7, 3) := by decide +kernel
theorem dX8_faults_88 : decode cX8_faults 88 = .ok (.iconst 1, 1) := by decide +kernel
theorem dX8_faults_89 : decode cX8_faults 89 = .ok (.goto 4, 3) := by decide +kernel
theorem dX8_faults_92 : decode cX8_faults 92 = .ok (.iconst 0, 1) := by decide +kernel
theorem dX8_faults_93 : decode cX8_faults 93 = .ok (.ireturn, 1) := by decide +kernel
theorem dX8_bestHour_0 : decode cX8_bestHour 0 = .ok (.aload_n 0, 1) := by decide +kernel
theorem dX8_bestHour_1 : decode cX8_bestHour 1 = .ok (.iload_n 1, 1) := by decide +kernel
theorem dX8_bestHour_2 : decode cX8_bestHour 2 = .ok (.invokevirtual 114, 3) := by decide +kernel
theorem dX8_bestHour_5 : decode cX8_bestHour 5 = .ok (.ifCond .eq 11, 3) := by decide +kernel
theorem dX8_bestHour_8 : decode cX8_bestHour 8 = .ok (.aload_n 0, 1) := by decide +kernel
theorem dX8_bestHour_9 : decode cX8_bestHour 9 = .ok (.iload_n 2, 1) := by decide +kernel
theorem dX8_bestHour_10 : decode cX8_bestHour 10 = .ok (.invokevirtual 120, 3) := by decide +kernel
theorem dX8_bestHour_13 : decode cX8_bestHour 13 = .ok (.ifCond .ne 7, 3) := by decide +kernel
theorem dX8_bestHour_16 : decode cX8_bestHour 16 = .ok (.iconst (-1), 1) := by decide +kernel
theorem dX8_bestHour_17 : decode cX8_bestHour 17 = .ok (.goto 18, 3) := by decide +kernel
theorem dX8_bestHour_20 : decode cX8_bestHour 20 = .ok (.iload_n 3, 1) := by decide +kernel
theorem dX8_bestHour_21 : decode cX8_bestHour 21 = .ok (.iconst 0, 1) := by decide +kernel
theorem dX8_bestHour_22 : decode cX8_bestHour 22 = .ok (.iconst 1, 1) := by decide +kernel
theorem dX8_bestHour_23 : decode cX8_bestHour 23 = .ok (.invokestatic 88, 3) := by decide +kernel
theorem dX8_bestHour_26 : decode cX8_bestHour 26 = .ok (.ifCond .ne 8, 3) := by decide +kernel
theorem dX8_bestHour_29 : decode cX8_bestHour 29 = .ok (.bipush (-2), 2) := by decide +kernel
theorem dX8_bestHour_31 : decode cX8_bestHour 31 = .ok (.goto 4, 3) := by decide +kernel
theorem dX8_bestHour_34 : decode cX8_bestHour 34 = .ok (.iconst 0, 1) := by decide +kernel
theorem dX8_bestHour_35 : decode cX8_bestHour 35 = .ok (.istore 4, 2) := by decide +kernel
theorem dX8_bestHour_37 : decode cX8_bestHour 37 = .ok (.iload 4, 2) := by decide +kernel
theorem dX8_bestHour_39 : decode cX8_bestHour 39 = .ok (.ifCond .eq 10, 3) := by decide +kernel
theorem dX8_bestHour_42 : decode cX8_bestHour 42 = .ok (.aload_n 0, 1) := by decide +kernel
theorem dX8_bestHour_43 : decode cX8_bestHour 43 = .ok (.iload 4, 2) := by decide +kernel
theorem dX8_bestHour_45 : decode cX8_bestHour 45 = .ok (.invokevirtual 77, 3) := by decide +kernel
theorem dX8_bestHour_48 : decode cX8_bestHour 48 = .ok (.ireturn, 1) := by decide +kernel
theorem dX8_bestHour_49 : decode cX8_bestHour 49 = .ok (.iconst 0, 1) := by decide +kernel
theorem dX8_bestHour_50 : decode cX8_bestHour 50 = .ok (.istore 5, 2) := by decide +kernel
theorem dX8_bestHour_52 : decode cX8_bestHour 52 = .ok (.iconst 0, 1) := by decide +kernel
theorem dX8_bestHour_53 : decode cX8_bestHour 53 = .ok (.istore 6, 2) := by decide +kernel
theorem dX8_bestHour_55 : decode cX8_bestHour 55 = .ok (.iconst 0, 1) := by decide +kernel
theorem dX8_bestHour_56 : decode cX8_bestHour 56 = .ok (.istore 7, 2) := by decide +kernel
theorem dX8_bestHour_58 : decode cX8_bestHour 58 = .ok (.iload 7, 2) := by decide +kernel
theorem dX8_bestHour_60 : decode cX8_bestHour 60 = .ok (.bipush 24, 2) := by decide +kernel
theorem dX8_bestHour_62 : decode cX8_bestHour 62 = .ok (.if_icmp .ge 71, 3) := by decide +kernel
theorem dX8_bestHour_65 : decode cX8_bestHour 65 = .ok (.iload 6, 2) := by decide +kernel
theorem dX8_bestHour_67 : decode cX8_bestHour 67 = .ok (.aload_n 0, 1) := by decide +kernel
theorem dX8_bestHour_68 : decode cX8_bestHour 68 = .ok (.iload_n 1, 1) := by decide +kernel
theorem dX8_bestHour_69 : decode cX8_bestHour 69 = .ok (.iload_n 2, 1) := by decide +kernel
theorem dX8_bestHour_70 : decode cX8_bestHour 70 = .ok (.iload 7, 2) := by decide +kernel
theorem dX8_bestHour_72 : decode cX8_bestHour 72 = .ok (.invokevirtual 185, 3) := by decide +kernel
theorem dX8_bestHour_75 : decode cX8_bestHour 75 = .ok (.ifCond .eq 10, 3) := by decide +kernel
theorem dX8_bestHour_78 : decode cX8_bestHour 78 = .ok (.iconst 1, 1) := by decide +kernel
theorem dX8_bestHour_79 : decode cX8_bestHour 79 = .ok (.iload 7, 2) := by decide +kernel
theorem dX8_bestHour_81 : decode cX8_bestHour 81 = .ok (.ishl, 1) := by decide +kernel
theorem dX8_bestHour_82 : decode cX8_bestHour 82 = .ok (.goto 4, 3) := by decide +kernel
theorem dX8_bestHour_85 : decode cX8_bestHour 85 = .ok (.iconst 0, 1) := by decide +kernel
theorem dX8_bestHour_86 : decode cX8_bestHour 86 = .ok (.ior, 1) := by decide +kernel
theorem dX8_bestHour_87 : decode cX8_bestHour 87 = .ok (.istore 6, 2) := by decide +kernel
theorem dX8_bestHour_89 : decode cX8_bestHour 89 = .ok (.aload_n 0, 1) := by decide +kernel
theorem dX8_bestHour_90 : decode cX8_bestHour 90 = .ok (.iload_n 1, 1) := by decide +kernel
theorem dX8_bestHour_91 : decode cX8_bestHour 91 = .ok (.aload_n 0, 1) := by decide +kernel
theorem dX8_bestHour_92 : decode cX8_bestHour 92 = .ok (.getfield 22, 3) := by decide +kernel
theorem dX8_bestHour_95 : decode cX8_bestHour 95 = .ok (.iload_n 2, 1) := by decide +kernel
theorem dX8_bestHour_96 : decode cX8_bestHour 96 = .ok (.iaload, 1) := by decide +kernel
theorem dX8_bestHour_97 : decode cX8_bestHour 97 = .ok (.iload 7, 2) := by decide +kernel
theorem dX8_bestHour_99 : decode cX8_bestHour 99 = .ok (.invokevirtual 179, 3) := by decide +kernel
theorem dX8_bestHour_102 : decode cX8_bestHour 102 = .ok (.aload_n 0, 1) := by decide +kernel
theorem dX8_bestHour_103 : decode cX8_bestHour 103 = .ok (.iload_n 1, 1) := by decide +kernel
theorem dX8_bestHour_104 : decode cX8_bestHour 104 = .ok (.aload_n 0, 1) := by decide +kernel
theorem dX8_bestHour_105 : decode cX8_bestHour 105 = .ok (.getfield 22, 3) := by decide +kernel
theorem dX8_bestHour_108 : decode cX8_bestHour 108 = .ok (.iload_n 2, 1) := by decide +kernel
theorem dX8_bestHour_109 : decode cX8_bestHour 109 = .ok (.iaload, 1) := by decide +kernel
theorem dX8_bestHour_110 : decode cX8_bestHour 110 = .ok (.iload 5, 2) := by decide +kernel
theorem dX8_bestHour_112 : decode cX8_bestHour 112 = .ok (.invokevirtual 179, 3) := by decide +kernel
theorem dX8_bestHour_115 : decode cX8_bestHour 115 = .ok (.if_icmp .ge 8, 3) := by decide +kernel
theorem dX8_bestHour_118 : decode cX8_bestHour 118 = .ok (.iload 7, 2) := by decide +kernel
theorem dX8_bestHour_120 : decode cX8_bestHour 120 = .ok (.goto 5, 3) := by decide +kernel
theorem dX8_bestHour_123 : decode cX8_bestHour 123 = .ok (.iload 5, 2) := by decide +kernel
theorem dX8_bestHour_125 : decode cX8_bestHour 125 = .ok (.istore 5, 2) := by decide +kernel
theorem dX8_bestHour_127 : decode cX8_bestHour 127 = .ok (.iinc 7 1, 3) := by decide +kernel
theorem dX8_bestHour_130 : decode cX8_bestHour 130 = .ok (.goto (-72), 3) := by decide +kernel
theorem dX8_bestHour_133 : decode cX8_bestHour 133 = .ok (.iload_n 3, 1) := by decide +kernel
theorem dX8_bestHour_134 : decode cX8_bestHour 134 = .ok (.ifCond .ne 8, 3) := by decide +kernel
theorem dX8_bestHour_137 : decode cX8_bestHour 137 = .ok (.iload 5, 2) := by decide +kernel
theorem dX8_bestHour_139 : decode cX8_bestHour 139 = .ok (.goto 5, 3) := by decide +kernel
theorem dX8_bestHour_142 : decode cX8_bestHour 142 = .ok (.iload 6, 2) := by decide +kernel
theorem dX8_bestHour_144 : decode cX8_bestHour 144 = .ok (.ireturn, 1) := by decide +kernel
theorem dX8_easiest_0 : decode cX8_easiest 0 = .ok (.aload_n 0, 1) := by decide +kernel
theorem dX8_easiest_1 : decode cX8_easiest 1 = .ok (.iload_n 1, 1) := by decide +kernel
theorem dX8_easiest_2 : decode cX8_easiest 2 = .ok (.invokevirtual 114, 3) := by decide +kernel
theorem dX8_easiest_5 : decode cX8_easiest 5 = .ok (.ifCond .eq 10, 3) := by decide +kernel
theorem dX8_easiest_8 : decode cX8_easiest 8 = .ok (.iload_n 2, 1) := by decide +kernel
theorem dX8_easiest_9 : decode cX8_easiest 9 = .ok (.invokestatic 126, 3) := by decide +kernel
theorem dX8_easiest_12 : decode cX8_easiest 12 = .ok (.ifCond .ne 7, 3) := by decide +kernel
theorem dX8_easiest_15 : decode cX8_easiest 15 = .ok (.iconst (-1), 1) := by decide +kernel
theorem dX8_easiest_16 : decode cX8_easiest 16 = .ok (.goto 18, 3) := by decide +kernel
theorem dX8_easiest_19 : decode cX8_easiest 19 = .ok (.iload_n 3, 1) := by decide +kernel
theorem dX8_easiest_20 : decode cX8_easiest 20 = .ok (.iconst 0, 1) := by decide +kernel
theorem dX8_easiest_21 : decode cX8_easiest 21 = .ok (.iconst 1, 1) := by decide +kernel
theorem dX8_easiest_22 : decode cX8_easiest 22 = .ok (.invokestatic 88, 3) := by decide +kernel
theorem dX8_easiest_25 : decode cX8_easiest 25 = .ok (.ifCond .ne 8, 3) := by decide +kernel
theorem dX8_easiest_28 : decode cX8_easiest 28 = .ok (.bipush (-2), 2) := by decide +kernel
theorem dX8_easiest_30 : decode cX8_easiest 30 = .ok (.goto 4, 3) := by decide +kernel
theorem dX8_easiest_33 : decode cX8_easiest 33 = .ok (.iconst 0, 1) := by decide +kernel
theorem dX8_easiest_34 : decode cX8_easiest 34 = .ok (.istore 4, 2) := by decide +kernel
theorem dX8_easiest_36 : decode cX8_easiest 36 = .ok (.iload 4, 2) := by decide +kernel
theorem dX8_easiest_38 : decode cX8_easiest 38 = .ok (.ifCond .eq 10, 3) := by decide +kernel
theorem dX8_easiest_41 : decode cX8_easiest 41 = .ok (.aload_n 0, 1) := by decide +kernel
theorem dX8_easiest_42 : decode cX8_easiest 42 = .ok (.iload 4, 2) := by decide +kernel
theorem dX8_easiest_44 : decode cX8_easiest 44 = .ok (.invokevirtual 77, 3) := by decide +kernel
theorem dX8_easiest_47 : decode cX8_easiest 47 = .ok (.ireturn, 1) := by decide +kernel
theorem dX8_easiest_48 : decode cX8_easiest 48 = .ok (.iload_n 3, 1) := by decide +kernel
theorem dX8_easiest_49 : decode cX8_easiest 49 = .ok (.iconst 1, 1) := by decide +kernel
theorem dX8_easiest_50 : decode cX8_easiest 50 = .ok (.if_icmp .ne 10, 3) := by decide +kernel
theorem dX8_easiest_53 : decode cX8_easiest 53 = .ok (.aload_n 0, 1) := by decide +kernel
theorem dX8_easiest_54 : decode cX8_easiest 54 = .ok (.iload_n 1, 1) := by decide +kernel
theorem dX8_easiest_55 : decode cX8_easiest 55 = .ok (.iload_n 2, 1) := by decide +kernel
theorem dX8_easiest_56 : decode cX8_easiest 56 = .ok (.invokevirtual 209, 3) := by decide +kernel
theorem dX8_easiest_59 : decode cX8_easiest 59 = .ok (.ireturn, 1) := by decide +kernel
theorem dX8_easiest_60 : decode cX8_easiest 60 = .ok (.bipush (-9), 2) := by decide +kernel
theorem dX8_easiest_62 : decode cX8_easiest 62 = .ok (.istore 5, 2) := by decide +kernel
theorem dX8_easiest_64 : decode cX8_easiest 64 = .ok (.iconst 0, 1) := by decide +kernel
theorem dX8_easiest_65 : decode cX8_easiest 65 = .ok (.istore 6, 2) := by decide +kernel
theorem dX8_easiest_67 : decode cX8_easiest 67 = .ok (.iload 6, 2) := by decide +kernel
theorem dX8_easiest_69 : decode cX8_easiest 69 = .ok (.aload_n 0, 1) := by decide +kernel
theorem dX8_easiest_70 : decode cX8_easiest 70 = .ok (.getfield 64, 3) := by decide +kernel
theorem dX8_easiest_73 : decode cX8_easiest 73 = .ok (.if_icmp .ge 47, 3) := by decide +kernel
theorem dX8_easiest_76 : decode cX8_easiest 76 = .ok (.iload 5, 2) := by decide +kernel
theorem dX8_easiest_78 : decode cX8_easiest 78 = .ok (.ifCond .lt 32, 3) := by decide +kernel
theorem dX8_easiest_81 : decode cX8_easiest 81 = .ok (.aload_n 0, 1) := by decide +kernel
theorem dX8_easiest_82 : decode cX8_easiest 82 = .ok (.iload_n 1, 1) := by decide +kernel
theorem dX8_easiest_83 : decode cX8_easiest 83 = .ok (.aload_n 0, 1) := by decide +kernel
theorem dX8_easiest_84 : decode cX8_easiest 84 = .ok (.getfield 22, 3) := by decide +kernel
theorem dX8_easiest_87 : decode cX8_easiest 87 = .ok (.iload 6, 2) := by decide +kernel
theorem dX8_easiest_89 : decode cX8_easiest 89 = .ok (.iaload, 1) := by decide +kernel
theorem dX8_easiest_90 : decode cX8_easiest 90 = .ok (.iload_n 2, 1) := by decide +kernel
theorem dX8_easiest_91 : decode cX8_easiest 91 = .ok (.invokevirtual 179, 3) := by decide +kernel
theorem dX8_easiest_94 : decode cX8_easiest 94 = .ok (.aload_n 0, 1) := by decide +kernel
theorem dX8_easiest_95 : decode cX8_easiest 95 = .ok (.iload_n 1, 1) := by decide +kernel
theorem dX8_easiest_96 : decode cX8_easiest 96 = .ok (.aload_n 0, 1) := by decide +kernel
theorem dX8_easiest_97 : decode cX8_easiest 97 = .ok (.getfield 22, 3) := by decide +kernel
theorem dX8_easiest_100 : decode cX8_easiest 100 = .ok (.iload 5, 2) := by decide +kernel
theorem dX8_easiest_102 : decode cX8_easiest 102 = .ok (.iaload, 1) := by decide +kernel
theorem dX8_easiest_103 : decode cX8_easiest 103 = .ok (.iload_n 2, 1) := by decide +kernel
theorem dX8_easiest_104 : decode cX8_easiest 104 = .ok (.invokevirtual 179, 3) := by decide +kernel
theorem dX8_easiest_107 : decode cX8_easiest 107 = .ok (.if_icmp .ge 7, 3) := by decide +kernel
theorem dX8_easiest_110 : decode cX8_easiest 110 = .ok (.iload 6, 2) := by decide +kernel
theorem dX8_easiest_112 : decode cX8_easiest 112 = .ok (.istore 5, 2) := by decide +kernel
theorem dX8_easiest_114 : decode cX8_easiest 114 = .ok (.iinc 6 1, 3) := by decide +kernel
theorem dX8_easiest_117 : decode cX8_easiest 117 = .ok (.goto (-50), 3) := by decide +kernel
theorem dX8_easiest_120 : decode cX8_easiest 120 = .ok (.iload 5, 2) := by decide +kernel
theorem dX8_easiest_122 : decode cX8_easiest 122 = .ok (.ireturn, 1) := by decide +kernel
theorem dX8_passesKnowing_0 : decode cX8_passesKnowing 0 = .ok (.aload_n 0, 1) := by decide +kernel
theorem dX8_passesKnowing_1 : decode cX8_passesKnowing 1 = .ok (.getfield 28, 3) := by decide +kernel
theorem dX8_passesKnowing_4 : decode cX8_passesKnowing 4 = .ok (.iload_n 1, 1) := by decide +kernel
theorem dX8_passesKnowing_5 : decode cX8_passesKnowing 5 = .ok (.iaload, 1) := by decide +kernel
theorem dX8_passesKnowing_6 : decode cX8_passesKnowing 6 = .ok (.istore 5, 2) := by decide +kernel
theorem dX8_passesKnowing_8 : decode cX8_passesKnowing 8 = .ok (.aload_n 0, 1) := by decide +kernel
theorem dX8_passesKnowing_9 : decode cX8_passesKnowing 9 = .ok (.getfield 28, 3) := by decide +kernel
theorem dX8_passesKnowing_12 : decode cX8_passesKnowing 12 = .ok (.iload_n 1, 1) := by decide +kernel
theorem dX8_passesKnowing_13 : decode cX8_passesKnowing 13 = .ok (.dup2, 1) := by decide +kernel
theorem dX8_passesKnowing_14 : decode cX8_passesKnowing 14 = .ok (.iaload, 1) := by decide +kernel
theorem dX8_passesKnowing_15 : decode cX8_passesKnowing 15 = .ok (.iload 4, 2) := by decide +kernel
theorem dX8_passesKnowing_17 : decode cX8_passesKnowing 17 = .ok (.ior, 1) := by decide +kernel
theorem dX8_passesKnowing_18 : decode cX8_passesKnowing 18 = .ok (.iastore, 1) := by decide +kernel
theorem dX8_passesKnowing_19 : decode cX8_passesKnowing 19 = .ok (.iload_n 2, 1) := by decide +kernel
theorem dX8_passesKnowing_20 : decode cX8_passesKnowing 20 = .ok (.ifCond .ge 28, 3) := by decide +kernel
theorem dX8_passesKnowing_23 : decode cX8_passesKnowing 23 = .ok (.aload_n 0, 1) := by decide +kernel
theorem dX8_passesKnowing_24 : decode cX8_passesKnowing 24 = .ok (.iload_n 1, 1) := by decide +kernel
theorem dX8_passesKnowing_25 : decode cX8_passesKnowing 25 = .ok (.iload_n 3, 1) := by decide +kernel
theorem dX8_passesKnowing_26 : decode cX8_passesKnowing 26 = .ok (.invokevirtual 209, 3) := by decide +kernel
theorem dX8_passesKnowing_29 : decode cX8_passesKnowing 29 = .ok (.iconst 1, 1) := by decide +kernel
theorem dX8_passesKnowing_30 : decode cX8_passesKnowing 30 = .ok (.aload_n 0, 1) := by decide +kernel
theorem dX8_passesKnowing_31 : decode cX8_passesKnowing 31 = .ok (.getfield 64, 3) := by decide +kernel
theorem dX8_passesKnowing_34 : decode cX8_passesKnowing 34 = .ok (.ishl, 1) := by decide +kernel
theorem dX8_passesKnowing_35 : decode cX8_passesKnowing 35 = .ok (.iconst 1, 1) := by decide +kernel
theorem dX8_passesKnowing_36 : decode cX8_passesKnowing 36 = .ok (.isub, 1) := by decide +kernel
theorem dX8_passesKnowing_37 : decode cX8_passesKnowing 37 = .ok (.if_icmp .ne 7, 3) := by decide +kernel
theorem dX8_passesKnowing_40 : decode cX8_passesKnowing 40 = .ok (.iconst 1, 1) := by decide +kernel
theorem dX8_passesKnowing_41 : decode cX8_passesKnowing 41 = .ok (.goto 14, 3) := by decide +kernel
theorem dX8_passesKnowing_44 : decode cX8_passesKnowing 44 = .ok (.iconst 0, 1) := by decide +kernel
theorem dX8_passesKnowing_45 : decode cX8_passesKnowing 45 = .ok (.goto 10, 3) := by decide +kernel
theorem dX8_passesKnowing_48 : decode cX8_passesKnowing 48 = .ok (.aload_n 0, 1) := by decide +kernel
theorem dX8_passesKnowing_49 : decode cX8_passesKnowing 49 = .ok (.iload_n 1, 1) := by decide +kernel
theorem dX8_passesKnowing_50 : decode cX8_passesKnowing 50 = .ok (.iload_n 2, 1) := by decide +kernel
theorem dX8_passesKnowing_51 : decode cX8_passesKnowing 51 = .ok (.iload_n 3, 1) := by decide +kernel
theorem dX8_passesKnowing_52 : decode cX8_passesKnowing 52 = .ok (.invokevirtual 185, 3) := by decide +kernel
theorem dX8_passesKnowing_55 : decode cX8_passesKnowing 55 = .ok (.istore 6, 2) := by decide +kernel
theorem dX8_passesKnowing_57 : decode cX8_passesKnowing 57 = .ok (.aload_n 0, 1) := by decide +kernel
theorem dX8_passesKnowing_58 : decode cX8_passesKnowing 58 = .ok (.getfield 28, 3) := by decide +kernel
theorem dX8_passesKnowing_61 : decode cX8_passesKnowing 61 = .ok (.iload_n 1, 1) := by decide +kernel
theorem dX8_passesKnowing_62 : decode cX8_passesKnowing 62 = .ok (.iload 5, 2) := by decide +kernel
theorem dX8_passesKnowing_64 : decode cX8_passesKnowing 64 = .ok (.iastore, 1) := by decide +kernel
theorem dX8_passesKnowing_65 : decode cX8_passesKnowing 65 = .ok (.iload 6, 2) := by decide +kernel
theorem dX8_passesKnowing_67 : decode cX8_passesKnowing 67 = .ok (.ireturn, 1) := by decide +kernel
theorem dX8_learn_0 : decode cX8_learn 0 = .ok (.aload_n 0, 1) := by decide +kernel
theorem dX8_learn_1 : decode cX8_learn 1 = .ok (.iload_n 1, 1) := by decide +kernel
theorem dX8_learn_2 : decode cX8_learn 2 = .ok (.invokevirtual 114, 3) := by decide +kernel
theorem dX8_learn_5 : decode cX8_learn 5 = .ok (.ifCond .eq 23, 3) := by decide +kernel
theorem dX8_learn_8 : decode cX8_learn 8 = .ok (.iload_n 2, 1) := by decide +kernel
theorem dX8_learn_9 : decode cX8_learn 9 = .ok (.iconst (-1), 1) := by decide +kernel
theorem dX8_learn_10 : decode cX8_learn 10 = .ok (.if_icmp .eq 11, 3) := by decide +kernel
theorem dX8_learn_13 : decode cX8_learn 13 = .ok (.aload_n 0, 1) := by decide +kernel
theorem dX8_learn_14 : decode cX8_learn 14 = .ok (.iload_n 2, 1) := by decide +kernel
theorem dX8_learn_15 : decode cX8_learn 15 = .ok (.invokevirtual 120, 3) := by decide +kernel
theorem dX8_learn_18 : decode cX8_learn 18 = .ok (.ifCond .eq 10, 3) := by decide +kernel
theorem dX8_learn_21 : decode cX8_learn 21 = .ok (.iload_n 3, 1) := by decide +kernel
theorem dX8_learn_22 : decode cX8_learn 22 = .ok (.invokestatic 126, 3) := by decide +kernel
theorem dX8_learn_25 : decode cX8_learn 25 = .ok (.ifCond .ne 9, 3) := by decide +kernel
theorem dX8_learn_28 : decode cX8_learn 28 = .ok (.aload_n 0, 1) := by decide +kernel
theorem dX8_learn_29 : decode cX8_learn 29 = .ok (.iconst (-1), 1) := by decide +kernel
theorem dX8_learn_30 : decode cX8_learn 30 = .ok (.invokevirtual 77, 3) := by decide +kernel
theorem dX8_learn_33 : decode cX8_learn 33 = .ok (.ireturn, 1) := by decide +kernel
theorem dX8_learn_34 : decode cX8_learn 34 = .ok (.bipush (-9), 2) := by decide +kernel
theorem dX8_learn_36 : decode cX8_learn 36 = .ok (.istore 4, 2) := by decide +kernel
theorem dX8_learn_38 : decode cX8_learn 38 = .ok (.iconst 0, 1) := by decide +kernel
theorem dX8_learn_39 : decode cX8_learn 39 = .ok (.istore 5, 2) := by decide +kernel
theorem dX8_learn_41 : decode cX8_learn 41 = .ok (.iload 5, 2) := by decide +kernel
theorem dX8_learn_43 : decode cX8_learn 43 = .ok (.iconst 1, 1) := by decide +kernel
theorem dX8_learn_44 : decode cX8_learn 44 = .ok (.aload_n 0, 1) := by decide +kernel
theorem dX8_learn_45 : decode cX8_learn 45 = .ok (.getfield 61, 3) := by decide +kernel
theorem dX8_learn_48 : decode cX8_learn 48 = .ok (.ishl, 1) := by decide +kernel
theorem dX8_learn_49 : decode cX8_learn 49 = .ok (.if_icmp .ge 58, 3) := by decide +kernel
theorem dX8_learn_52 : decode cX8_learn 52 = .ok (.iload 5, 2) := by decide +kernel
theorem dX8_learn_54 : decode cX8_learn 54 = .ok (.aload_n 0, 1) := by decide +kernel
theorem dX8_learn_55 : decode cX8_learn 55 = .ok (.getfield 28, 3) := by decide +kernel
theorem dX8_learn_58 : decode cX8_learn 58 = .ok (.iload_n 1, 1) := by decide +kernel
theorem dX8_learn_59 : decode cX8_learn 59 = .ok (.iaload, 1) := by decide +kernel
theorem dX8_learn_60 : decode cX8_learn 60 = .ok (.iand, 1) := by decide +kernel
theorem dX8_learn_61 : decode cX8_learn 61 = .ok (.ifCond .ne 40, 3) := by decide +kernel
theorem dX8_learn_64 : decode cX8_learn 64 = .ok (.iload 4, 2) := by decide +kernel
theorem dX8_learn_66 : decode cX8_learn 66 = .ok (.ifCond .lt 19, 3) := by decide +kernel
theorem dX8_learn_69 : decode cX8_learn 69 = .ok (.iload 5, 2) := by decide +kernel
theorem dX8_learn_71 : decode cX8_learn 71 = .ok (.invokestatic 212, 3) := by decide +kernel
theorem dX8_learn_74 : decode cX8_learn 74 = .ok (.iload 4, 2) := by decide +kernel
theorem dX8_learn_76 : decode cX8_learn 76 = .ok (.invokestatic 212, 3) := by decide +kernel
theorem dX8_learn_79 : decode cX8_learn 79 = .ok (.if_icmp .lt 6, 3) := by decide +kernel
theorem dX8_learn_82 : decode cX8_learn 82 = .ok (.goto 19, 3) := by decide +kernel
theorem dX8_learn_85 : decode cX8_learn 85 = .ok (.aload_n 0, 1) := by decide +kernel
theorem dX8_learn_86 : decode cX8_learn 86 = .ok (.iload_n 1, 1) := by decide +kernel
theorem dX8_learn_87 : decode cX8_learn 87 = .ok (.iload_n 2, 1) := by decide +kernel
theorem dX8_learn_88 : decode cX8_learn 88 = .ok (.iload_n 3, 1) := by decide +kernel
theorem dX8_learn_89 : decode cX8_learn 89 = .ok (.iload 5, 2) := by decide +kernel
theorem dX8_learn_91 : decode cX8_learn 91 = .ok (.invokevirtual 215, 3) := by decide +kernel
theorem dX8_learn_94 : decode cX8_learn 94 = .ok (.ifCond .eq 7, 3) := by decide +kernel
theorem dX8_learn_97 : decode cX8_learn 97 = .ok (.iload 5, 2) := by decide +kernel
theorem dX8_learn_99 : decode cX8_learn 99 = .ok (.istore 4, 2) := by decide +kernel
theorem dX8_learn_101 : decode cX8_learn 101 = .ok (.iinc 5 1, 3) := by decide +kernel
theorem dX8_learn_104 : decode cX8_learn 104 = .ok (.goto (-63), 3) := by decide +kernel
theorem dX8_learn_107 : decode cX8_learn 107 = .ok (.iload 4, 2) := by decide +kernel
theorem dX8_learn_109 : decode cX8_learn 109 = .ok (.ireturn, 1) := by decide +kernel
theorem dX8_divisor_0 : decode cX8_divisor 0 = .ok (.lload_n 0, 1) := by decide +kernel
theorem dX8_divisor_1 : decode cX8_divisor 1 = .ok (.lstore 4, 2) := by decide +kernel
theorem dX8_divisor_3 : decode cX8_divisor 3 = .ok (.lload_n 2, 1) := by decide +kernel
theorem dX8_divisor_4 : decode cX8_divisor 4 = .ok (.lstore 6, 2) := by decide +kernel
theorem dX8_divisor_6 : decode cX8_divisor 6 = .ok (.lload 6, 2) := by decide +kernel
theorem dX8_divisor_8 : decode cX8_divisor 8 = .ok (.lconst 0, 1) := by decide +kernel
theorem dX8_divisor_9 : decode cX8_divisor 9 = .ok (.lcmp, 1) := by decide +kernel
theorem dX8_divisor_10 : decode cX8_divisor 10 = .ok (.ifCond .eq 21, 3) := by decide +kernel
theorem dX8_divisor_13 : decode cX8_divisor 13 = .ok (.lload 4, 2) := by decide +kernel
theorem dX8_divisor_15 : decode cX8_divisor 15 = .ok (.lload 6, 2) := by decide +kernel
theorem dX8_divisor_17 : decode cX8_divisor 17 = .ok (.lrem, 1) := by decide +kernel
theorem dX8_divisor_18 : decode cX8_divisor 18 = .ok (.lstore 8, 2) := by decide +kernel
theorem dX8_divisor_20 : decode cX8_divisor 20 = .ok (.lload 6, 2) := by decide +kernel
theorem dX8_divisor_22 : decode cX8_divisor 22 = .ok (.lstore 4, 2) := by decide +kernel
theorem dX8_divisor_24 : decode cX8_divisor 24 = .ok (.lload 8, 2) := by decide +kernel
theorem dX8_divisor_26 : decode cX8_divisor 26 = .ok (.lstore 6, 2) := by decide +kernel
theorem dX8_divisor_28 : decode cX8_divisor 28 = .ok (.goto (-22), 3) := by decide +kernel
theorem dX8_divisor_31 : decode cX8_divisor 31 = .ok (.lload 4, 2) := by decide +kernel
theorem dX8_divisor_33 : decode cX8_divisor 33 = .ok (.lreturn, 1) := by decide +kernel
theorem dX8_partOf_0 : decode cX8_partOf 0 = .ok (.iload 4, 2) := by decide +kernel
theorem dX8_partOf_2 : decode cX8_partOf 2 = .ok (.ifCond .ne 7, 3) := by decide +kernel
theorem dX8_partOf_5 : decode cX8_partOf 5 = .ok (.lload_n 0, 1) := by decide +kernel
theorem dX8_partOf_6 : decode cX8_partOf 6 = .ok (.goto 4, 3) := by decide +kernel
theorem dX8_partOf_9 : decode cX8_partOf 9 = .ok (.lload_n 2, 1) := by decide +kernel
theorem dX8_partOf_10 : decode cX8_partOf 10 = .ok (.lload_n 0, 1) := by decide +kernel
theorem dX8_partOf_11 : decode cX8_partOf 11 = .ok (.lload_n 2, 1) := by decide +kernel
theorem dX8_partOf_12 : decode cX8_partOf 12 = .ok (.invokestatic 219, 3) := by decide +kernel
theorem dX8_partOf_15 : decode cX8_partOf 15 = .ok (.ldiv, 1) := by decide +kernel
theorem dX8_partOf_16 : decode cX8_partOf 16 = .ok (.lreturn, 1) := by decide +kernel
theorem dX8_drawnWay_0 : decode cX8_drawnWay 0 = .ok (.aload_n 0, 1) := by decide +kernel
theorem dX8_drawnWay_1 : decode cX8_drawnWay 1 = .ok (.iload_n 1, 1) := by decide +kernel
theorem dX8_drawnWay_2 : decode cX8_drawnWay 2 = .ok (.invokevirtual 114, 3) := by decide +kernel
theorem dX8_drawnWay_5 : decode cX8_drawnWay 5 = .ok (.ifCond .eq 10, 3) := by decide +kernel
theorem dX8_drawnWay_8 : decode cX8_drawnWay 8 = .ok (.iload_n 2, 1) := by decide +kernel
theorem dX8_drawnWay_9 : decode cX8_drawnWay 9 = .ok (.invokestatic 126, 3) := by decide +kernel
theorem dX8_drawnWay_12 : decode cX8_drawnWay 12 = .ok (.ifCond .ne 7, 3) := by decide +kernel
theorem dX8_drawnWay_15 : decode cX8_drawnWay 15 = .ok (.iconst (-1), 1) := by decide +kernel
theorem dX8_drawnWay_16 : decode cX8_drawnWay 16 = .ok (.goto 18, 3) := by decide +kernel
theorem dX8_drawnWay_19 : decode cX8_drawnWay 19 = .ok (.iload_n 3, 1) := by decide +kernel
theorem dX8_drawnWay_20 : decode cX8_drawnWay 20 = .ok (.iconst 0, 1) := by decide +kernel
theorem dX8_drawnWay_21 : decode cX8_drawnWay 21 = .ok (.iconst 1, 1) := by decide +kernel
theorem dX8_drawnWay_22 : decode cX8_drawnWay 22 = .ok (.invokestatic 88, 3) := by decide +kernel
theorem dX8_drawnWay_25 : decode cX8_drawnWay 25 = .ok (.ifCond .ne 8, 3) := by decide +kernel
theorem dX8_drawnWay_28 : decode cX8_drawnWay 28 = .ok (.bipush (-2), 2) := by decide +kernel
theorem dX8_drawnWay_30 : decode cX8_drawnWay 30 = .ok (.goto 4, 3) := by decide +kernel
theorem dX8_drawnWay_33 : decode cX8_drawnWay 33 = .ok (.iconst 0, 1) := by decide +kernel
theorem dX8_drawnWay_34 : decode cX8_drawnWay 34 = .ok (.istore 4, 2) := by decide +kernel
theorem dX8_drawnWay_36 : decode cX8_drawnWay 36 = .ok (.iload 4, 2) := by decide +kernel
theorem dX8_drawnWay_38 : decode cX8_drawnWay 38 = .ok (.ifCond .eq 10, 3) := by decide +kernel
theorem dX8_drawnWay_41 : decode cX8_drawnWay 41 = .ok (.aload_n 0, 1) := by decide +kernel
theorem dX8_drawnWay_42 : decode cX8_drawnWay 42 = .ok (.iload 4, 2) := by decide +kernel
theorem dX8_drawnWay_44 : decode cX8_drawnWay 44 = .ok (.invokevirtual 223, 3) := by decide +kernel
theorem dX8_drawnWay_47 : decode cX8_drawnWay 47 = .ok (.lreturn, 1) := by decide +kernel
theorem dX8_drawnWay_48 : decode cX8_drawnWay 48 = .ok (.aload_n 0, 1) := by decide +kernel
theorem dX8_drawnWay_49 : decode cX8_drawnWay 49 = .ok (.getfield 64, 3) := by decide +kernel
theorem dX8_drawnWay_52 : decode cX8_drawnWay 52 = .ok (.ifCond .ne 8, 3) := by decide +kernel
theorem dX8_drawnWay_55 : decode cX8_drawnWay 55 = .ok (.iload_n 3, 1) := by decide +kernel
theorem dX8_drawnWay_56 : decode cX8_drawnWay 56 = .ok (.i2l, 1) := by decide +kernel
theorem dX8_drawnWay_57 : decode cX8_drawnWay 57 = .ok (.goto 22, 3) := by decide +kernel
theorem dX8_drawnWay_60 : decode cX8_drawnWay 60 = .ok (.aload_n 0, 1) := by decide +kernel
theorem dX8_drawnWay_61 : decode cX8_drawnWay 61 = .ok (.iload_n 1, 1) := by decide +kernel
theorem dX8_drawnWay_62 : decode cX8_drawnWay 62 = .ok (.iload_n 2, 1) := by decide +kernel
theorem dX8_drawnWay_63 : decode cX8_drawnWay 63 = .ok (.invokevirtual 209, 3) := by decide +kernel
theorem dX8_drawnWay_66 : decode cX8_drawnWay 66 = .ok (.invokestatic 212, 3) := by decide +kernel
theorem dX8_drawnWay_69 : decode cX8_drawnWay 69 = .ok (.i2l, 1) := by decide +kernel
theorem dX8_drawnWay_70 : decode cX8_drawnWay 70 = .ok (.aload_n 0, 1) := by decide +kernel
theorem dX8_drawnWay_71 : decode cX8_drawnWay 71 = .ok (.getfield 64, 3) := by decide +kernel
theorem dX8_drawnWay_74 : decode cX8_drawnWay 74 = .ok (.i2l, 1) := by decide +kernel
theorem dX8_drawnWay_75 : decode cX8_drawnWay 75 = .ok (.iload_n 3, 1) := by decide +kernel
theorem dX8_drawnWay_76 : decode cX8_drawnWay 76 = .ok (.invokestatic 227, 3) := by decide +kernel
theorem dX8_drawnWay_79 : decode cX8_drawnWay 79 = .ok (.lreturn, 1) := by decide +kernel
