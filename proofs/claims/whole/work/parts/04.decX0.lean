theorem dX0_init_0 : decode cX0_init 0 = .ok (.aload_n 0, 1) := by decide +kernel
theorem dX0_init_1 : decode cX0_init 1 = .ok (.invokespecial 3, 3) := by decide +kernel
theorem dX0_init_4 : decode cX0_init 4 = .ok (.aload_n 0, 1) := by decide +kernel
theorem dX0_init_5 : decode cX0_init 5 = .ok (.bipush 16, 2) := by decide +kernel
theorem dX0_init_7 : decode cX0_init 7 = .ok (.newarray .int, 2) := by decide +kernel
theorem dX0_init_9 : decode cX0_init 9 = .ok (.putfield 9, 3) := by decide +kernel
theorem dX0_init_12 : decode cX0_init 12 = .ok (.aload_n 0, 1) := by decide +kernel
theorem dX0_init_13 : decode cX0_init 13 = .ok (.bipush 16, 2) := by decide +kernel
theorem dX0_init_15 : decode cX0_init 15 = .ok (.newarray .int, 2) := by decide +kernel
theorem dX0_init_17 : decode cX0_init 17 = .ok (.putfield 15, 3) := by decide +kernel
theorem dX0_init_20 : decode cX0_init 20 = .ok (.aload_n 0, 1) := by decide +kernel
theorem dX0_init_21 : decode cX0_init 21 = .ok (.bipush 16, 2) := by decide +kernel
theorem dX0_init_23 : decode cX0_init 23 = .ok (.newarray .int, 2) := by decide +kernel
theorem dX0_init_25 : decode cX0_init 25 = .ok (.putfield 18, 3) := by decide +kernel
theorem dX0_init_28 : decode cX0_init 28 = .ok (.aload_n 0, 1) := by decide +kernel
theorem dX0_init_29 : decode cX0_init 29 = .ok (.iconst 4, 1) := by decide +kernel
theorem dX0_init_30 : decode cX0_init 30 = .ok (.newarray .int, 2) := by decide +kernel
theorem dX0_init_32 : decode cX0_init 32 = .ok (.putfield 21, 3) := by decide +kernel
theorem dX0_init_35 : decode cX0_init 35 = .ok (.aload_n 0, 1) := by decide +kernel
theorem dX0_init_36 : decode cX0_init 36 = .ok (.iconst 4, 1) := by decide +kernel
theorem dX0_init_37 : decode cX0_init 37 = .ok (.newarray .int, 2) := by decide +kernel
theorem dX0_init_39 : decode cX0_init 39 = .ok (.putfield 24, 3) := by decide +kernel
theorem dX0_init_42 : decode cX0_init 42 = .ok (.aload_n 0, 1) := by decide +kernel
theorem dX0_init_43 : decode cX0_init 43 = .ok (.bipush 11, 2) := by decide +kernel
theorem dX0_init_45 : decode cX0_init 45 = .ok (.newarray .int, 2) := by decide +kernel
theorem dX0_init_47 : decode cX0_init 47 = .ok (.putfield 27, 3) := by decide +kernel
theorem dX0_init_50 : decode cX0_init 50 = .ok (.aload_n 0, 1) := by decide +kernel
theorem dX0_init_51 : decode cX0_init 51 = .ok (.bipush 9, 2) := by decide +kernel
theorem dX0_init_53 : decode cX0_init 53 = .ok (.newarray .int, 2) := by decide +kernel
theorem dX0_init_55 : decode cX0_init 55 = .ok (.putfield 30, 3) := by decide +kernel
theorem dX0_init_58 : decode cX0_init 58 = .ok (.iconst 0, 1) := by decide +kernel
theorem dX0_init_59 : decode cX0_init 59 = .ok (.istore_n 1, 1) := by decide +kernel
theorem dX0_init_60 : decode cX0_init 60 = .ok (.iload_n 1, 1) := by decide +kernel
theorem dX0_init_61 : decode cX0_init 61 = .ok (.aload_n 0, 1) := by decide +kernel
theorem dX0_init_62 : decode cX0_init 62 = .ok (.getfield 24, 3) := by decide +kernel
theorem dX0_init_65 : decode cX0_init 65 = .ok (.arraylength, 1) := by decide +kernel
theorem dX0_init_66 : decode cX0_init 66 = .ok (.if_icmp .ge 16, 3) := by decide +kernel
theorem dX0_init_69 : decode cX0_init 69 = .ok (.aload_n 0, 1) := by decide +kernel
theorem dX0_init_70 : decode cX0_init 70 = .ok (.getfield 24, 3) := by decide +kernel
theorem dX0_init_73 : decode cX0_init 73 = .ok (.iload_n 1, 1) := by decide +kernel
theorem dX0_init_74 : decode cX0_init 74 = .ok (.iconst (-1), 1) := by decide +kernel
theorem dX0_init_75 : decode cX0_init 75 = .ok (.iastore, 1) := by decide +kernel
theorem dX0_init_76 : decode cX0_init 76 = .ok (.iinc 1 1, 3) := by decide +kernel
theorem dX0_init_79 : decode cX0_init 79 = .ok (.goto (-19), 3) := by decide +kernel
theorem dX0_init_82 : decode cX0_init 82 = .ok (.return_, 1) := by decide +kernel
theorem dX0_copyFrom_0 : decode cX0_copyFrom 0 = .ok (.aload_n 1, 1) := by decide +kernel
theorem dX0_copyFrom_1 : decode cX0_copyFrom 1 = .ok (.getfield 9, 3) := by decide +kernel
theorem dX0_copyFrom_4 : decode cX0_copyFrom 4 = .ok (.aload_n 0, 1) := by decide +kernel
theorem dX0_copyFrom_5 : decode cX0_copyFrom 5 = .ok (.getfield 9, 3) := by decide +kernel
theorem dX0_copyFrom_8 : decode cX0_copyFrom 8 = .ok (.invokestatic 33, 3) := by decide +kernel
theorem dX0_copyFrom_11 : decode cX0_copyFrom 11 = .ok (.aload_n 1, 1) := by decide +kernel
theorem dX0_copyFrom_12 : decode cX0_copyFrom 12 = .ok (.getfield 15, 3) := by decide +kernel
theorem dX0_copyFrom_15 : decode cX0_copyFrom 15 = .ok (.aload_n 0, 1) := by decide +kernel
theorem dX0_copyFrom_16 : decode cX0_copyFrom 16 = .ok (.getfield 15, 3) := by decide +kernel
theorem dX0_copyFrom_19 : decode cX0_copyFrom 19 = .ok (.invokestatic 33, 3) := by decide +kernel
theorem dX0_copyFrom_22 : decode cX0_copyFrom 22 = .ok (.aload_n 1, 1) := by decide +kernel
theorem dX0_copyFrom_23 : decode cX0_copyFrom 23 = .ok (.getfield 18, 3) := by decide +kernel
theorem dX0_copyFrom_26 : decode cX0_copyFrom 26 = .ok (.aload_n 0, 1) := by decide +kernel
theorem dX0_copyFrom_27 : decode cX0_copyFrom 27 = .ok (.getfield 18, 3) := by decide +kernel
theorem dX0_copyFrom_30 : decode cX0_copyFrom 30 = .ok (.invokestatic 33, 3) := by decide +kernel
theorem dX0_copyFrom_33 : decode cX0_copyFrom 33 = .ok (.aload_n 1, 1) := by decide +kernel
theorem dX0_copyFrom_34 : decode cX0_copyFrom 34 = .ok (.getfield 21, 3) := by decide +kernel
theorem dX0_copyFrom_37 : decode cX0_copyFrom 37 = .ok (.aload_n 0, 1) := by decide +kernel
theorem dX0_copyFrom_38 : decode cX0_copyFrom 38 = .ok (.getfield 21, 3) := by decide +kernel
theorem dX0_copyFrom_41 : decode cX0_copyFrom 41 = .ok (.invokestatic 33, 3) := by decide +kernel
theorem dX0_copyFrom_44 : decode cX0_copyFrom 44 = .ok (.aload_n 1, 1) := by decide +kernel
theorem dX0_copyFrom_45 : decode cX0_copyFrom 45 = .ok (.getfield 24, 3) := by decide +kernel
theorem dX0_copyFrom_48 : decode cX0_copyFrom 48 = .ok (.aload_n 0, 1) := by decide +kernel
theorem dX0_copyFrom_49 : decode cX0_copyFrom 49 = .ok (.getfield 24, 3) := by decide +kernel
theorem dX0_copyFrom_52 : decode cX0_copyFrom 52 = .ok (.invokestatic 33, 3) := by decide +kernel
theorem dX0_copyFrom_55 : decode cX0_copyFrom 55 = .ok (.aload_n 1, 1) := by decide +kernel
theorem dX0_copyFrom_56 : decode cX0_copyFrom 56 = .ok (.getfield 27, 3) := by decide +kernel
theorem dX0_copyFrom_59 : decode cX0_copyFrom 59 = .ok (.aload_n 0, 1) := by decide +kernel
theorem dX0_copyFrom_60 : decode cX0_copyFrom 60 = .ok (.getfield 27, 3) := by decide +kernel
theorem dX0_copyFrom_63 : decode cX0_copyFrom 63 = .ok (.invokestatic 33, 3) := by decide +kernel
theorem dX0_copyFrom_66 : decode cX0_copyFrom 66 = .ok (.aload_n 1, 1) := by decide +kernel
theorem dX0_copyFrom_67 : decode cX0_copyFrom 67 = .ok (.getfield 30, 3) := by decide +kernel
theorem dX0_copyFrom_70 : decode cX0_copyFrom 70 = .ok (.aload_n 0, 1) := by decide +kernel
theorem dX0_copyFrom_71 : decode cX0_copyFrom 71 = .ok (.getfield 30, 3) := by decide +kernel
theorem dX0_copyFrom_74 : decode cX0_copyFrom 74 = .ok (.invokestatic 33, 3) := by decide +kernel
theorem dX0_copyFrom_77 : decode cX0_copyFrom 77 = .ok (.aload_n 0, 1) := by decide +kernel
theorem dX0_copyFrom_78 : decode cX0_copyFrom 78 = .ok (.aload_n 1, 1) := by decide +kernel
theorem dX0_copyFrom_79 : decode cX0_copyFrom 79 = .ok (.getfield 37, 3) := by decide +kernel
theorem dX0_copyFrom_82 : decode cX0_copyFrom 82 = .ok (.putfield 37, 3) := by decide +kernel
theorem dX0_copyFrom_85 : decode cX0_copyFrom 85 = .ok (.aload_n 0, 1) := by decide +kernel
theorem dX0_copyFrom_86 : decode cX0_copyFrom 86 = .ok (.aload_n 1, 1) := by decide +kernel
theorem dX0_copyFrom_87 : decode cX0_copyFrom 87 = .ok (.getfield 41, 3) := by decide +kernel
theorem dX0_copyFrom_90 : decode cX0_copyFrom 90 = .ok (.putfield 41, 3) := by decide +kernel
theorem dX0_copyFrom_93 : decode cX0_copyFrom 93 = .ok (.aload_n 0, 1) := by decide +kernel
theorem dX0_copyFrom_94 : decode cX0_copyFrom 94 = .ok (.aload_n 1, 1) := by decide +kernel
theorem dX0_copyFrom_95 : decode cX0_copyFrom 95 = .ok (.getfield 44, 3) := by decide +kernel
theorem dX0_copyFrom_98 : decode cX0_copyFrom 98 = .ok (.putfield 44, 3) := by decide +kernel
theorem dX0_copyFrom_101 : decode cX0_copyFrom 101 = .ok (.aload_n 0, 1) := by decide +kernel
theorem dX0_copyFrom_102 : decode cX0_copyFrom 102 = .ok (.aload_n 1, 1) := by decide +kernel
theorem dX0_copyFrom_103 : decode cX0_copyFrom 103 = .ok (.getfield 47, 3) := by decide +kernel
theorem dX0_copyFrom_106 : decode cX0_copyFrom 106 = .ok (.putfield 47, 3) := by decide +kernel
theorem dX0_copyFrom_109 : decode cX0_copyFrom 109 = .ok (.aload_n 0, 1) := by decide +kernel
theorem dX0_copyFrom_110 : decode cX0_copyFrom 110 = .ok (.aload_n 1, 1) := by decide +kernel
theorem dX0_copyFrom_111 : decode cX0_copyFrom 111 = .ok (.getfield 51, 3) := by decide +kernel
theorem dX0_copyFrom_114 : decode cX0_copyFrom 114 = .ok (.putfield 51, 3) := by decide +kernel
theorem dX0_copyFrom_117 : decode cX0_copyFrom 117 = .ok (.aload_n 0, 1) := by decide +kernel
theorem dX0_copyFrom_118 : decode cX0_copyFrom 118 = .ok (.aload_n 1, 1) := by decide +kernel
theorem dX0_copyFrom_119 : decode cX0_copyFrom 119 = .ok (.getfield 54, 3) := by decide +kernel
theorem dX0_copyFrom_122 : decode cX0_copyFrom 122 = .ok (.putfield 54, 3) := by decide +kernel
theorem dX0_copyFrom_125 : decode cX0_copyFrom 125 = .ok (.aload_n 0, 1) := by decide +kernel
theorem dX0_copyFrom_126 : decode cX0_copyFrom 126 = .ok (.aload_n 1, 1) := by decide +kernel
theorem dX0_copyFrom_127 : decode cX0_copyFrom 127 = .ok (.getfield 57, 3) := by decide +kernel
theorem dX0_copyFrom_130 : decode cX0_copyFrom 130 = .ok (.putfield 57, 3) := by decide +kernel
theorem dX0_copyFrom_133 : decode cX0_copyFrom 133 = .ok (.aload_n 0, 1) := by decide +kernel
theorem dX0_copyFrom_134 : decode cX0_copyFrom 134 = .ok (.aload_n 1, 1) := by decide +kernel
theorem dX0_copyFrom_135 : decode cX0_copyFrom 135 = .ok (.getfield 60, 3) := by decide +kernel
theorem dX0_copyFrom_138 : decode cX0_copyFrom 138 = .ok (.putfield 60, 3) := by decide +kernel
theorem dX0_copyFrom_141 : decode cX0_copyFrom 141 = .ok (.return_, 1) := by decide +kernel
theorem dX0_copyRow_0 : decode cX0_copyRow 0 = .ok (.iconst 0, 1) := by decide +kernel
theorem dX0_copyRow_1 : decode cX0_copyRow 1 = .ok (.istore_n 2, 1) := by decide +kernel
theorem dX0_copyRow_2 : decode cX0_copyRow 2 = .ok (.iload_n 2, 1) := by decide +kernel
theorem dX0_copyRow_3 : decode cX0_copyRow 3 = .ok (.aload_n 0, 1) := by decide +kernel
theorem dX0_copyRow_4 : decode cX0_copyRow 4 = .ok (.arraylength, 1) := by decide +kernel
theorem dX0_copyRow_5 : decode cX0_copyRow 5 = .ok (.if_icmp .ge 21, 3) := by decide +kernel
theorem dX0_copyRow_8 : decode cX0_copyRow 8 = .ok (.iload_n 2, 1) := by decide +kernel
theorem dX0_copyRow_9 : decode cX0_copyRow 9 = .ok (.aload_n 1, 1) := by decide +kernel
theorem dX0_copyRow_10 : decode cX0_copyRow 10 = .ok (.arraylength, 1) := by decide +kernel
theorem dX0_copyRow_11 : decode cX0_copyRow 11 = .ok (.if_icmp .ge 15, 3) := by decide +kernel
theorem dX0_copyRow_14 : decode cX0_copyRow 14 = .ok (.aload_n 1, 1) := by decide +kernel
theorem dX0_copyRow_15 : decode cX0_copyRow 15 = .ok (.iload_n 2, 1) := by decide +kernel
theorem dX0_copyRow_16 : decode cX0_copyRow 16 = .ok (.aload_n 0, 1) := by decide +kernel
theorem dX0_copyRow_17 : decode cX0_copyRow 17 = .ok (.iload_n 2, 1) := by decide +kernel
theorem dX0_copyRow_18 : decode cX0_copyRow 18 = .ok (.iaload, 1) := by decide +kernel
theorem dX0_copyRow_19 : decode cX0_copyRow 19 = .ok (.iastore, 1) := by decide +kernel
theorem dX0_copyRow_20 : decode cX0_copyRow 20 = .ok (.iinc 2 1, 3) := by decide +kernel
theorem dX0_copyRow_23 : decode cX0_copyRow 23 = .ok (.goto (-21), 3) := by decide +kernel
theorem dX0_copyRow_26 : decode cX0_copyRow 26 = .ok (.return_, 1) := by decide +kernel
theorem dX0_isEstimate_0 : decode cX0_isEstimate 0 = .ok (.getstatic 63, 3) := by decide +kernel
theorem dX0_isEstimate_3 : decode cX0_isEstimate 3 = .ok (.astore_n 1, 1) := by decide +kernel
theorem dX0_isEstimate_4 : decode cX0_isEstimate 4 = .ok (.aload_n 1, 1) := by decide +kernel
theorem dX0_isEstimate_5 : decode cX0_isEstimate 5 = .ok (.arraylength, 1) := by decide +kernel
theorem dX0_isEstimate_6 : decode cX0_isEstimate 6 = .ok (.istore_n 2, 1) := by decide +kernel
theorem dX0_isEstimate_7 : decode cX0_isEstimate 7 = .ok (.iconst 0, 1) := by decide +kernel
theorem dX0_isEstimate_8 : decode cX0_isEstimate 8 = .ok (.istore_n 3, 1) := by decide +kernel
theorem dX0_isEstimate_9 : decode cX0_isEstimate 9 = .ok (.iload_n 3, 1) := by decide +kernel
theorem dX0_isEstimate_10 : decode cX0_isEstimate 10 = .ok (.iload_n 2, 1) := by decide +kernel
theorem dX0_isEstimate_11 : decode cX0_isEstimate 11 = .ok (.if_icmp .ge 22, 3) := by decide +kernel
theorem dX0_isEstimate_14 : decode cX0_isEstimate 14 = .ok (.aload_n 1, 1) := by decide +kernel
theorem dX0_isEstimate_15 : decode cX0_isEstimate 15 = .ok (.iload_n 3, 1) := by decide +kernel
theorem dX0_isEstimate_16 : decode cX0_isEstimate 16 = .ok (.iaload, 1) := by decide +kernel
theorem dX0_isEstimate_17 : decode cX0_isEstimate 17 = .ok (.istore 4, 2) := by decide +kernel
theorem dX0_isEstimate_19 : decode cX0_isEstimate 19 = .ok (.iload_n 0, 1) := by decide +kernel
theorem dX0_isEstimate_20 : decode cX0_isEstimate 20 = .ok (.iload 4, 2) := by decide +kernel
theorem dX0_isEstimate_22 : decode cX0_isEstimate 22 = .ok (.if_icmp .ne 5, 3) := by decide +kernel
theorem dX0_isEstimate_25 : decode cX0_isEstimate 25 = .ok (.iconst 1, 1) := by decide +kernel
theorem dX0_isEstimate_26 : decode cX0_isEstimate 26 = .ok (.ireturn, 1) := by decide +kernel
theorem dX0_isEstimate_27 : decode cX0_isEstimate 27 = .ok (.iinc 3 1, 3) := by decide +kernel
theorem dX0_isEstimate_30 : decode cX0_isEstimate 30 = .ok (.goto (-21), 3) := by decide +kernel
theorem dX0_isEstimate_33 : decode cX0_isEstimate 33 = .ok (.iconst 0, 1) := by decide +kernel
theorem dX0_isEstimate_34 : decode cX0_isEstimate 34 = .ok (.ireturn, 1) := by decide +kernel
theorem dX0_isSpeed_0 : decode cX0_isSpeed 0 = .ok (.iload_n 0, 1) := by decide +kernel
theorem dX0_isSpeed_1 : decode cX0_isSpeed 1 = .ok (.iconst 1, 1) := by decide +kernel
theorem dX0_isSpeed_2 : decode cX0_isSpeed 2 = .ok (.if_icmp .lt 12, 3) := by decide +kernel
theorem dX0_isSpeed_5 : decode cX0_isSpeed 5 = .ok (.iload_n 0, 1) := by decide +kernel
theorem dX0_isSpeed_6 : decode cX0_isSpeed 6 = .ok (.iconst 4, 1) := by decide +kernel
theorem dX0_isSpeed_7 : decode cX0_isSpeed 7 = .ok (.if_icmp .gt 7, 3) := by decide +kernel
theorem dX0_isSpeed_10 : decode cX0_isSpeed 10 = .ok (.iconst 1, 1) := by decide +kernel
theorem dX0_isSpeed_11 : decode cX0_isSpeed 11 = .ok (.goto 4, 3) := by decide +kernel
theorem dX0_isSpeed_14 : decode cX0_isSpeed 14 = .ok (.iconst 0, 1) := by decide +kernel
theorem dX0_isSpeed_15 : decode cX0_isSpeed 15 = .ok (.ireturn, 1) := by decide +kernel
theorem dX0_isSprintLength_0 : decode cX0_isSprintLength 0 = .ok (.iload_n 0, 1) := by decide +kernel
theorem dX0_isSprintLength_1 : decode cX0_isSprintLength 1 = .ok (.iconst 1, 1) := by decide +kernel
theorem dX0_isSprintLength_2 : decode cX0_isSprintLength 2 = .ok (.if_icmp .lt 13, 3) := by decide +kernel
theorem dX0_isSprintLength_5 : decode cX0_isSprintLength 5 = .ok (.iload_n 0, 1) := by decide +kernel
theorem dX0_isSprintLength_6 : decode cX0_isSprintLength 6 = .ok (.bipush 10, 2) := by decide +kernel
theorem dX0_isSprintLength_8 : decode cX0_isSprintLength 8 = .ok (.if_icmp .gt 7, 3) := by decide +kernel
theorem dX0_isSprintLength_11 : decode cX0_isSprintLength 11 = .ok (.iconst 1, 1) := by decide +kernel
theorem dX0_isSprintLength_12 : decode cX0_isSprintLength 12 = .ok (.goto 4, 3) := by decide +kernel
theorem dX0_isSprintLength_15 : decode cX0_isSprintLength 15 = .ok (.iconst 0, 1) := by decide +kernel
theorem dX0_isSprintLength_16 : decode cX0_isSprintLength 16 = .ok (.ireturn, 1) := by decide +kernel
theorem dX0_hasStory_0 : decode cX0_hasStory 0 = .ok (.iload_n 1, 1) := by decide +kernel
theorem dX0_hasStory_1 : decode cX0_hasStory 1 = .ok (.ifCond .lt 21, 3) := by decide +kernel
theorem dX0_hasStory_4 : decode cX0_hasStory 4 = .ok (.iload_n 1, 1) := by decide +kernel
theorem dX0_hasStory_5 : decode cX0_hasStory 5 = .ok (.aload_n 0, 1) := by decide +kernel
theorem dX0_hasStory_6 : decode cX0_hasStory 6 = .ok (.getfield 37, 3) := by decide +kernel
theorem dX0_hasStory_9 : decode cX0_hasStory 9 = .ok (.if_icmp .ge 13, 3) := by decide +kernel
theorem dX0_hasStory_12 : decode cX0_hasStory 12 = .ok (.iload_n 1, 1) := by decide +kernel
theorem dX0_hasStory_13 : decode cX0_hasStory 13 = .ok (.bipush 16, 2) := by decide +kernel
theorem dX0_hasStory_15 : decode cX0_hasStory 15 = .ok (.if_icmp .ge 7, 3) := by decide +kernel
theorem dX0_hasStory_18 : decode cX0_hasStory 18 = .ok (.iconst 1, 1) := by decide +kernel
theorem dX0_hasStory_19 : decode cX0_hasStory 19 = .ok (.goto 4, 3) := by decide +kernel
theorem dX0_hasStory_22 : decode cX0_hasStory 22 = .ok (.iconst 0, 1) := by decide +kernel
theorem dX0_hasStory_23 : decode cX0_hasStory 23 = .ok (.ireturn, 1) := by decide +kernel
theorem dX0_hasDeveloper_0 : decode cX0_hasDeveloper 0 = .ok (.iload_n 1, 1) := by decide +kernel
theorem dX0_hasDeveloper_1 : decode cX0_hasDeveloper 1 = .ok (.ifCond .lt 20, 3) := by decide +kernel
theorem dX0_hasDeveloper_4 : decode cX0_hasDeveloper 4 = .ok (.iload_n 1, 1) := by decide +kernel
theorem dX0_hasDeveloper_5 : decode cX0_hasDeveloper 5 = .ok (.aload_n 0, 1) := by decide +kernel
theorem dX0_hasDeveloper_6 : decode cX0_hasDeveloper 6 = .ok (.getfield 41, 3) := by decide +kernel
theorem dX0_hasDeveloper_9 : decode cX0_hasDeveloper 9 = .ok (.if_icmp .ge 12, 3) := by decide +kernel
theorem dX0_hasDeveloper_12 : decode cX0_hasDeveloper 12 = .ok (.iload_n 1, 1) := by decide +kernel
theorem dX0_hasDeveloper_13 : decode cX0_hasDeveloper 13 = .ok (.iconst 4, 1) := by decide +kernel
theorem dX0_hasDeveloper_14 : decode cX0_hasDeveloper 14 = .ok (.if_icmp .ge 7, 3) := by decide +kernel
theorem dX0_hasDeveloper_17 : decode cX0_hasDeveloper 17 = .ok (.iconst 1, 1) := by decide +kernel
theorem dX0_hasDeveloper_18 : decode cX0_hasDeveloper 18 = .ok (.goto 4, 3) := by decide +kernel
theorem dX0_hasDeveloper_21 : decode cX0_hasDeveloper 21 = .ok (.iconst 0, 1) := by decide +kernel
theorem dX0_hasDeveloper_22 : decode cX0_hasDeveloper 22 = .ok (.ireturn, 1) := by decide +kernel
theorem dX0_isFinished_0 : decode cX0_isFinished 0 = .ok (.aload_n 0, 1) := by decide +kernel
theorem dX0_isFinished_1 : decode cX0_isFinished 1 = .ok (.iload_n 1, 1) := by decide +kernel
theorem dX0_isFinished_2 : decode cX0_isFinished 2 = .ok (.invokevirtual 66, 3) := by decide +kernel
theorem dX0_isFinished_5 : decode cX0_isFinished 5 = .ok (.ifCond .eq 16, 3) := by decide +kernel
theorem dX0_isFinished_8 : decode cX0_isFinished 8 = .ok (.aload_n 0, 1) := by decide +kernel
theorem dX0_isFinished_9 : decode cX0_isFinished 9 = .ok (.getfield 15, 3) := by decide +kernel
theorem dX0_isFinished_12 : decode cX0_isFinished 12 = .ok (.iload_n 1, 1) := by decide +kernel
theorem dX0_isFinished_13 : decode cX0_isFinished 13 = .ok (.iaload, 1) := by decide +kernel
theorem dX0_isFinished_14 : decode cX0_isFinished 14 = .ok (.ifCond .ne 7, 3) := by decide +kernel
theorem dX0_isFinished_17 : decode cX0_isFinished 17 = .ok (.iconst 1, 1) := by decide +kernel
theorem dX0_isFinished_18 : decode cX0_isFinished 18 = .ok (.goto 4, 3) := by decide +kernel
theorem dX0_isFinished_21 : decode cX0_isFinished 21 = .ok (.iconst 0, 1) := by decide +kernel
theorem dX0_isFinished_22 : decode cX0_isFinished 22 = .ok (.ireturn, 1) := by decide +kernel
theorem dX0_plans_0 : decode cX0_plans 0 = .ok (.aload_n 0, 1) := by decide +kernel
theorem dX0_plans_1 : decode cX0_plans 1 = .ok (.iload_n 1, 1) := by decide +kernel
theorem dX0_plans_2 : decode cX0_plans 2 = .ok (.invokevirtual 66, 3) := by decide +kernel
theorem dX0_plans_5 : decode cX0_plans 5 = .ok (.ifCond .eq 18, 3) := by decide +kernel
theorem dX0_plans_8 : decode cX0_plans 8 = .ok (.aload_n 0, 1) := by decide +kernel
theorem dX0_plans_9 : decode cX0_plans 9 = .ok (.getfield 44, 3) := by decide +kernel
theorem dX0_plans_12 : decode cX0_plans 12 = .ok (.iload_n 1, 1) := by decide +kernel
theorem dX0_plans_13 : decode cX0_plans 13 = .ok (.invokestatic 70, 3) := by decide +kernel
theorem dX0_plans_16 : decode cX0_plans 16 = .ok (.ifCond .eq 7, 3) := by decide +kernel
theorem dX0_plans_19 : decode cX0_plans 19 = .ok (.iconst 1, 1) := by decide +kernel
theorem dX0_plans_20 : decode cX0_plans 20 = .ok (.goto 4, 3) := by decide +kernel
theorem dX0_plans_23 : decode cX0_plans 23 = .ok (.iconst 0, 1) := by decide +kernel
theorem dX0_plans_24 : decode cX0_plans 24 = .ok (.ireturn, 1) := by decide +kernel
theorem dX0_canAddStory_0 : decode cX0_canAddStory 0 = .ok (.iload_n 1, 1) := by decide +kernel
theorem dX0_canAddStory_1 : decode cX0_canAddStory 1 = .ok (.invokestatic 74, 3) := by decide +kernel
theorem dX0_canAddStory_4 : decode cX0_canAddStory 4 = .ok (.ifCond .eq 16, 3) := by decide +kernel
theorem dX0_canAddStory_7 : decode cX0_canAddStory 7 = .ok (.aload_n 0, 1) := by decide +kernel
theorem dX0_canAddStory_8 : decode cX0_canAddStory 8 = .ok (.getfield 37, 3) := by decide +kernel
theorem dX0_canAddStory_11 : decode cX0_canAddStory 11 = .ok (.bipush 16, 2) := by decide +kernel
theorem dX0_canAddStory_13 : decode cX0_canAddStory 13 = .ok (.if_icmp .ge 7, 3) := by decide +kernel
theorem dX0_canAddStory_16 : decode cX0_canAddStory 16 = .ok (.iconst 1, 1) := by decide +kernel
theorem dX0_canAddStory_17 : decode cX0_canAddStory 17 = .ok (.goto 4, 3) := by decide +kernel
theorem dX0_canAddStory_20 : decode cX0_canAddStory 20 = .ok (.iconst 0, 1) := by decide +kernel
theorem dX0_canAddStory_21 : decode cX0_canAddStory 21 = .ok (.ireturn, 1) := by decide +kernel
theorem dX0_putStory_0 : decode cX0_putStory 0 = .ok (.aload_n 0, 1) := by decide +kernel
theorem dX0_putStory_1 : decode cX0_putStory 1 = .ok (.getfield 37, 3) := by decide +kernel
theorem dX0_putStory_4 : decode cX0_putStory 4 = .ok (.istore_n 2, 1) := by decide +kernel
theorem dX0_putStory_5 : decode cX0_putStory 5 = .ok (.iload_n 2, 1) := by decide +kernel
theorem dX0_putStory_6 : decode cX0_putStory 6 = .ok (.ifCond .lt 9, 3) := by decide +kernel
theorem dX0_putStory_9 : decode cX0_putStory 9 = .ok (.iload_n 2, 1) := by decide +kernel
theorem dX0_putStory_10 : decode cX0_putStory 10 = .ok (.bipush 16, 2) := by decide +kernel
theorem dX0_putStory_12 : decode cX0_putStory 12 = .ok (.if_icmp .lt 5, 3) := by decide +kernel
theorem dX0_putStory_15 : decode cX0_putStory 15 = .ok (.iconst (-1), 1) := by decide +kernel
theorem dX0_putStory_16 : decode cX0_putStory 16 = .ok (.ireturn, 1) := by decide +kernel
theorem dX0_putStory_17 : decode cX0_putStory 17 = .ok (.aload_n 0, 1) := by decide +kernel
theorem dX0_putStory_18 : decode cX0_putStory 18 = .ok (.getfield 9, 3) := by decide +kernel
theorem dX0_putStory_21 : decode cX0_putStory 21 = .ok (.iload_n 2, 1) := by decide +kernel
theorem dX0_putStory_22 : decode cX0_putStory 22 = .ok (.iload_n 1, 1) := by decide +kernel
theorem dX0_putStory_23 : decode cX0_putStory 23 = .ok (.iastore, 1) := by decide +kernel
theorem dX0_putStory_24 : decode cX0_putStory 24 = .ok (.aload_n 0, 1) := by decide +kernel
theorem dX0_putStory_25 : decode cX0_putStory 25 = .ok (.getfield 15, 3) := by decide +kernel
theorem dX0_putStory_28 : decode cX0_putStory 28 = .ok (.iload_n 2, 1) := by decide +kernel
theorem dX0_putStory_29 : decode cX0_putStory 29 = .ok (.iload_n 1, 1) := by decide +kernel
theorem dX0_putStory_30 : decode cX0_putStory 30 = .ok (.iastore, 1) := by decide +kernel
theorem dX0_putStory_31 : decode cX0_putStory 31 = .ok (.aload_n 0, 1) := by decide +kernel
theorem dX0_putStory_32 : decode cX0_putStory 32 = .ok (.getfield 18, 3) := by decide +kernel
theorem dX0_putStory_35 : decode cX0_putStory 35 = .ok (.iload_n 2, 1) := by decide +kernel
theorem dX0_putStory_36 : decode cX0_putStory 36 = .ok (.iconst 0, 1) := by decide +kernel
theorem dX0_putStory_37 : decode cX0_putStory 37 = .ok (.iastore, 1) := by decide +kernel
theorem dX0_putStory_38 : decode cX0_putStory 38 = .ok (.aload_n 0, 1) := by decide +kernel
theorem dX0_putStory_39 : decode cX0_putStory 39 = .ok (.dup, 1) := by decide +kernel
theorem dX0_putStory_40 : decode cX0_putStory 40 = .ok (.getfield 37, 3) := by decide +kernel
theorem dX0_putStory_43 : decode cX0_putStory 43 = .ok (.iconst 1, 1) := by decide +kernel
theorem dX0_putStory_44 : decode cX0_putStory 44 = .ok (.iadd, 1) := by decide +kernel
theorem dX0_putStory_45 : decode cX0_putStory 45 = .ok (.putfield 37, 3) := by decide +kernel
theorem dX0_putStory_48 : decode cX0_putStory 48 = .ok (.iload_n 2, 1) := by decide +kernel
theorem dX0_putStory_49 : decode cX0_putStory 49 = .ok (.ireturn, 1) := by decide +kernel
theorem dX0_canReestimate_0 : decode cX0_canReestimate 0 = .ok (.aload_n 0, 1) := by decide +kernel
theorem dX0_canReestimate_1 : decode cX0_canReestimate 1 = .ok (.iload_n 1, 1) := by decide +kernel
theorem dX0_canReestimate_2 : decode cX0_canReestimate 2 = .ok (.invokevirtual 66, 3) := by decide +kernel
theorem dX0_canReestimate_5 : decode cX0_canReestimate 5 = .ok (.ifCond .eq 22, 3) := by decide +kernel
theorem dX0_canReestimate_8 : decode cX0_canReestimate 8 = .ok (.iload_n 2, 1) := by decide +kernel
theorem dX0_canReestimate_9 : decode cX0_canReestimate 9 = .ok (.invokestatic 74, 3) := by decide +kernel
theorem dX0_canReestimate_12 : decode cX0_canReestimate 12 = .ok (.ifCond .eq 15, 3) := by decide +kernel
theorem dX0_canReestimate_15 : decode cX0_canReestimate 15 = .ok (.aload_n 0, 1) := by decide +kernel
theorem dX0_canReestimate_16 : decode cX0_canReestimate 16 = .ok (.iload_n 1, 1) := by decide +kernel
theorem dX0_canReestimate_17 : decode cX0_canReestimate 17 = .ok (.invokevirtual 77, 3) := by decide +kernel
theorem dX0_canReestimate_20 : decode cX0_canReestimate 20 = .ok (.ifCond .ne 7, 3) := by decide +kernel
theorem dX0_canReestimate_23 : decode cX0_canReestimate 23 = .ok (.iconst 1, 1) := by decide +kernel
theorem dX0_canReestimate_24 : decode cX0_canReestimate 24 = .ok (.goto 4, 3) := by decide +kernel
theorem dX0_canReestimate_27 : decode cX0_canReestimate 27 = .ok (.iconst 0, 1) := by decide +kernel
theorem dX0_canReestimate_28 : decode cX0_canReestimate 28 = .ok (.ireturn, 1) := by decide +kernel
theorem dX0_changeEstimate_0 : decode cX0_changeEstimate 0 = .ok (.aload_n 0, 1) := by decide +kernel
theorem dX0_changeEstimate_1 : decode cX0_changeEstimate 1 = .ok (.iload_n 1, 1) := by decide +kernel
theorem dX0_changeEstimate_2 : decode cX0_changeEstimate 2 = .ok (.invokevirtual 66, 3) := by decide +kernel
theorem dX0_changeEstimate_5 : decode cX0_changeEstimate 5 = .ok (.ifCond .ne 5, 3) := by decide +kernel
theorem dX0_changeEstimate_8 : decode cX0_changeEstimate 8 = .ok (.iconst (-1), 1) := by decide +kernel
theorem dX0_changeEstimate_9 : decode cX0_changeEstimate 9 = .ok (.ireturn, 1) := by decide +kernel
theorem dX0_changeEstimate_10 : decode cX0_changeEstimate 10 = .ok (.aload_n 0, 1) := by decide +kernel
theorem dX0_changeEstimate_11 : decode cX0_changeEstimate 11 = .ok (.getfield 9, 3) := by decide +kernel
theorem dX0_changeEstimate_14 : decode cX0_changeEstimate 14 = .ok (.iload_n 1, 1) := by decide +kernel
theorem dX0_changeEstimate_15 : decode cX0_changeEstimate 15 = .ok (.iaload, 1) := by decide +kernel
theorem dX0_changeEstimate_16 : decode cX0_changeEstimate 16 = .ok (.aload_n 0, 1) := by decide +kernel
theorem dX0_changeEstimate_17 : decode cX0_changeEstimate 17 = .ok (.getfield 15, 3) := by decide +kernel
theorem dX0_changeEstimate_20 : decode cX0_changeEstimate 20 = .ok (.iload_n 1, 1) := by decide +kernel
theorem dX0_changeEstimate_21 : decode cX0_changeEstimate 21 = .ok (.iaload, 1) := by decide +kernel
theorem dX0_changeEstimate_22 : decode cX0_changeEstimate 22 = .ok (.isub, 1) := by decide +kernel
theorem dX0_changeEstimate_23 : decode cX0_changeEstimate 23 = .ok (.iload_n 2, 1) := by decide +kernel
theorem dX0_changeEstimate_24 : decode cX0_changeEstimate 24 = .ok (.invokestatic 80, 3) := by decide +kernel
theorem dX0_changeEstimate_27 : decode cX0_changeEstimate 27 = .ok (.istore_n 3, 1) := by decide +kernel
theorem dX0_changeEstimate_28 : decode cX0_changeEstimate 28 = .ok (.aload_n 0, 1) := by decide +kernel
theorem dX0_changeEstimate_29 : decode cX0_changeEstimate 29 = .ok (.getfield 9, 3) := by decide +kernel
theorem dX0_changeEstimate_32 : decode cX0_changeEstimate 32 = .ok (.iload_n 1, 1) := by decide +kernel
theorem dX0_changeEstimate_33 : decode cX0_changeEstimate 33 = .ok (.iload_n 2, 1) := by decide +kernel
theorem dX0_changeEstimate_34 : decode cX0_changeEstimate 34 = .ok (.iastore, 1) := by decide +kernel
theorem dX0_changeEstimate_35 : decode cX0_changeEstimate 35 = .ok (.aload_n 0, 1) := by decide +kernel
theorem dX0_changeEstimate_36 : decode cX0_changeEstimate 36 = .ok (.getfield 15, 3) := by decide +kernel
theorem dX0_changeEstimate_39 : decode cX0_changeEstimate 39 = .ok (.iload_n 1, 1) := by decide +kernel
theorem dX0_changeEstimate_40 : decode cX0_changeEstimate 40 = .ok (.iload_n 2, 1) := by decide +kernel
theorem dX0_changeEstimate_41 : decode cX0_changeEstimate 41 = .ok (.iload_n 3, 1) := by decide +kernel
theorem dX0_changeEstimate_42 : decode cX0_changeEstimate 42 = .ok (.isub, 1) := by decide +kernel
theorem dX0_changeEstimate_43 : decode cX0_changeEstimate 43 = .ok (.iastore, 1) := by decide +kernel
theorem dX0_changeEstimate_44 : decode cX0_changeEstimate 44 = .ok (.aload_n 0, 1) := by decide +kernel
theorem dX0_changeEstimate_45 : decode cX0_changeEstimate 45 = .ok (.iload_n 1, 1) := by decide +kernel
theorem dX0_changeEstimate_46 : decode cX0_changeEstimate 46 = .ok (.invokevirtual 86, 3) := by decide +kernel
theorem dX0_changeEstimate_49 : decode cX0_changeEstimate 49 = .ok (.istore 4, 2) := by decide +kernel
theorem dX0_changeEstimate_51 : decode cX0_changeEstimate 51 = .ok (.aload_n 0, 1) := by decide +kernel
theorem dX0_changeEstimate_52 : decode cX0_changeEstimate 52 = .ok (.getfield 15, 3) := by decide +kernel
theorem dX0_changeEstimate_55 : decode cX0_changeEstimate 55 = .ok (.iload_n 1, 1) := by decide +kernel
theorem dX0_changeEstimate_56 : decode cX0_changeEstimate 56 = .ok (.iaload, 1) := by decide +kernel
theorem dX0_changeEstimate_57 : decode cX0_changeEstimate 57 = .ok (.ifCond .ne 20, 3) := by decide +kernel
theorem dX0_changeEstimate_60 : decode cX0_changeEstimate 60 = .ok (.aload_n 0, 1) := by decide +kernel
theorem dX0_changeEstimate_61 : decode cX0_changeEstimate 61 = .ok (.iload 4, 2) := by decide +kernel
theorem dX0_changeEstimate_63 : decode cX0_changeEstimate 63 = .ok (.invokevirtual 90, 3) := by decide +kernel
theorem dX0_changeEstimate_66 : decode cX0_changeEstimate 66 = .ok (.ifCond .eq 11, 3) := by decide +kernel
theorem dX0_changeEstimate_69 : decode cX0_changeEstimate 69 = .ok (.aload_n 0, 1) := by decide +kernel
theorem dX0_changeEstimate_70 : decode cX0_changeEstimate 70 = .ok (.getfield 24, 3) := by decide +kernel
theorem dX0_changeEstimate_73 : decode cX0_changeEstimate 73 = .ok (.iload 4, 2) := by decide +kernel
theorem dX0_changeEstimate_75 : decode cX0_changeEstimate 75 = .ok (.iconst (-1), 1) := by decide +kernel
theorem dX0_changeEstimate_76 : decode cX0_changeEstimate 76 = .ok (.iastore, 1) := by decide +kernel
theorem dX0_changeEstimate_77 : decode cX0_changeEstimate 77 = .ok (.aload_n 0, 1) := by decide +kernel
theorem dX0_changeEstimate_78 : decode cX0_changeEstimate 78 = .ok (.getfield 15, 3) := by decide +kernel
theorem dX0_changeEstimate_81 : decode cX0_changeEstimate 81 = .ok (.iload_n 1, 1) := by decide +kernel
theorem dX0_changeEstimate_82 : decode cX0_changeEstimate 82 = .ok (.iaload, 1) := by decide +kernel
theorem dX0_changeEstimate_83 : decode cX0_changeEstimate 83 = .ok (.ireturn, 1) := by decide +kernel
theorem dX0_hasBlocker_0 : decode cX0_hasBlocker 0 = .ok (.aload_n 0, 1) := by decide +kernel
theorem dX0_hasBlocker_1 : decode cX0_hasBlocker 1 = .ok (.iload_n 1, 1) := by decide +kernel
theorem dX0_hasBlocker_2 : decode cX0_hasBlocker 2 = .ok (.invokevirtual 66, 3) := by decide +kernel
theorem dX0_hasBlocker_5 : decode cX0_hasBlocker 5 = .ok (.ifCond .eq 28, 3) := by decide +kernel
theorem dX0_hasBlocker_8 : decode cX0_hasBlocker 8 = .ok (.aload_n 0, 1) := by decide +kernel
theorem dX0_hasBlocker_9 : decode cX0_hasBlocker 9 = .ok (.iload_n 2, 1) := by decide +kernel
theorem dX0_hasBlocker_10 : decode cX0_hasBlocker 10 = .ok (.invokevirtual 66, 3) := by decide +kernel
theorem dX0_hasBlocker_13 : decode cX0_hasBlocker 13 = .ok (.ifCond .eq 20, 3) := by decide +kernel
theorem dX0_hasBlocker_16 : decode cX0_hasBlocker 16 = .ok (.aload_n 0, 1) := by decide +kernel
theorem dX0_hasBlocker_17 : decode cX0_hasBlocker 17 = .ok (.getfield 18, 3) := by decide +kernel
theorem dX0_hasBlocker_20 : decode cX0_hasBlocker 20 = .ok (.iload_n 1, 1) := by decide +kernel
theorem dX0_hasBlocker_21 : decode cX0_hasBlocker 21 = .ok (.iaload, 1) := by decide +kernel
theorem dX0_hasBlocker_22 : decode cX0_hasBlocker 22 = .ok (.iload_n 2, 1) := by decide +kernel
theorem dX0_hasBlocker_23 : decode cX0_hasBlocker 23 = .ok (.invokestatic 70, 3) := by decide +kernel
theorem dX0_hasBlocker_26 : decode cX0_hasBlocker 26 = .ok (.ifCond .eq 7, 3) := by decide +kernel
theorem dX0_hasBlocker_29 : decode cX0_hasBlocker 29 = .ok (.iconst 1, 1) := by decide +kernel
theorem dX0_hasBlocker_30 : decode cX0_hasBlocker 30 = .ok (.goto 4, 3) := by decide +kernel
theorem dX0_hasBlocker_33 : decode cX0_hasBlocker 33 = .ok (.iconst 0, 1) := by decide +kernel
theorem dX0_hasBlocker_34 : decode cX0_hasBlocker 34 = .ok (.ireturn, 1) := by decide +kernel
theorem dX0_canBlock_0 : decode cX0_canBlock 0 = .ok (.aload_n 0, 1) := by decide +kernel
theorem dX0_canBlock_1 : decode cX0_canBlock 1 = .ok (.iload_n 1, 1) := by decide +kernel
theorem dX0_canBlock_2 : decode cX0_canBlock 2 = .ok (.invokevirtual 66, 3) := by decide +kernel
theorem dX0_canBlock_5 : decode cX0_canBlock 5 = .ok (.ifCond .eq 46, 3) := by decide +kernel
theorem dX0_canBlock_8 : decode cX0_canBlock 8 = .ok (.aload_n 0, 1) := by decide +kernel
theorem dX0_canBlock_9 : decode cX0_canBlock 9 = .ok (.iload_n 2, 1) := by decide +kernel
theorem dX0_canBlock_10 : decode cX0_canBlock 10 = .ok (.invokevirtual 66, 3) := by decide +kernel
theorem dX0_canBlock_13 : decode cX0_canBlock 13 = .ok (.ifCond .eq 38, 3) := by decide +kernel
theorem dX0_canBlock_16 : decode cX0_canBlock 16 = .ok (.iload_n 1, 1) := by decide +kernel
theorem dX0_canBlock_17 : decode cX0_canBlock 17 = .ok (.iload_n 2, 1) := by decide +kernel
theorem dX0_canBlock_18 : decode cX0_canBlock 18 = .ok (.if_icmp .eq 33, 3) := by decide +kernel
theorem dX0_canBlock_21 : decode cX0_canBlock 21 = .ok (.aload_n 0, 1) := by decide +kernel
theorem dX0_canBlock_22 : decode cX0_canBlock 22 = .ok (.iload_n 1, 1) := by decide +kernel
theorem dX0_canBlock_23 : decode cX0_canBlock 23 = .ok (.iload_n 2, 1) := by decide +kernel
theorem dX0_canBlock_24 : decode cX0_canBlock 24 = .ok (.invokevirtual 93, 3) := by decide +kernel
theorem dX0_canBlock_27 : decode cX0_canBlock 27 = .ok (.ifCond .ne 24, 3) := by decide +kernel
theorem dX0_canBlock_30 : decode cX0_canBlock 30 = .ok (.aload_n 0, 1) := by decide +kernel
theorem dX0_canBlock_31 : decode cX0_canBlock 31 = .ok (.iload_n 1, 1) := by decide +kernel
theorem dX0_canBlock_32 : decode cX0_canBlock 32 = .ok (.invokevirtual 77, 3) := by decide +kernel
theorem dX0_canBlock_35 : decode cX0_canBlock 35 = .ok (.ifCond .ne 16, 3) := by decide +kernel
theorem dX0_canBlock_38 : decode cX0_canBlock 38 = .ok (.aload_n 0, 1) := by decide +kernel
theorem dX0_canBlock_39 : decode cX0_canBlock 39 = .ok (.iload_n 2, 1) := by decide +kernel
theorem dX0_canBlock_40 : decode cX0_canBlock 40 = .ok (.iload_n 1, 1) := by decide +kernel
theorem dX0_canBlock_41 : decode cX0_canBlock 41 = .ok (.invokevirtual 96, 3) := by decide +kernel
theorem dX0_canBlock_44 : decode cX0_canBlock 44 = .ok (.ifCond .ne 7, 3) := by decide +kernel
theorem dX0_canBlock_47 : decode cX0_canBlock 47 = .ok (.iconst 1, 1) := by decide +kernel
theorem dX0_canBlock_48 : decode cX0_canBlock 48 = .ok (.goto 4, 3) := by decide +kernel
theorem dX0_canBlock_51 : decode cX0_canBlock 51 = .ok (.iconst 0, 1) := by decide +kernel
theorem dX0_canBlock_52 : decode cX0_canBlock 52 = .ok (.ireturn, 1) := by decide +kernel
theorem dX0_putBlocker_0 : decode cX0_putBlocker 0 = .ok (.aload_n 0, 1) := by decide +kernel
theorem dX0_putBlocker_1 : decode cX0_putBlocker 1 = .ok (.iload_n 1, 1) := by decide +kernel
theorem dX0_putBlocker_2 : decode cX0_putBlocker 2 = .ok (.invokevirtual 66, 3) := by decide +kernel
theorem dX0_putBlocker_5 : decode cX0_putBlocker 5 = .ok (.ifCond .eq 11, 3) := by decide +kernel
theorem dX0_putBlocker_8 : decode cX0_putBlocker 8 = .ok (.aload_n 0, 1) := by decide +kernel
theorem dX0_putBlocker_9 : decode cX0_putBlocker 9 = .ok (.iload_n 2, 1) := by decide +kernel
theorem dX0_putBlocker_10 : decode cX0_putBlocker 10 = .ok (.invokevirtual 66, 3) := by decide +kernel
theorem dX0_putBlocker_13 : decode cX0_putBlocker 13 = .ok (.ifCond .ne 5, 3) := by decide +kernel
theorem dX0_putBlocker_16 : decode cX0_putBlocker 16 = .ok (.iconst (-1), 1) := by decide +kernel
theorem dX0_putBlocker_17 : decode cX0_putBlocker 17 = .ok (.ireturn, 1) := by decide +kernel
theorem dX0_putBlocker_18 : decode cX0_putBlocker 18 = .ok (.aload_n 0, 1) := by decide +kernel
theorem dX0_putBlocker_19 : decode cX0_putBlocker 19 = .ok (.getfield 18, 3) := by decide +kernel
theorem dX0_putBlocker_22 : decode cX0_putBlocker 22 = .ok (.iload_n 1, 1) := by decide +kernel
theorem dX0_putBlocker_23 : decode cX0_putBlocker 23 = .ok (.dup2, 1) := by decide +kernel
theorem dX0_putBlocker_24 : decode cX0_putBlocker 24 = .ok (.iaload, 1) := by decide +kernel
theorem dX0_putBlocker_25 : decode cX0_putBlocker 25 = .ok (.iload_n 2, 1) := by decide +kernel
theorem dX0_putBlocker_26 : decode cX0_putBlocker 26 = .ok (.invokestatic 99, 3) := by decide +kernel
theorem dX0_putBlocker_29 : decode cX0_putBlocker 29 = .ok (.ior, 1) := by decide +kernel
theorem dX0_putBlocker_30 : decode cX0_putBlocker 30 = .ok (.iastore, 1) := by decide +kernel
theorem dX0_putBlocker_31 : decode cX0_putBlocker 31 = .ok (.aload_n 0, 1) := by decide +kernel
theorem dX0_putBlocker_32 : decode cX0_putBlocker 32 = .ok (.getfield 18, 3) := by decide +kernel
theorem dX0_putBlocker_35 : decode cX0_putBlocker 35 = .ok (.iload_n 1, 1) := by decide +kernel
theorem dX0_putBlocker_36 : decode cX0_putBlocker 36 = .ok (.iaload, 1) := by decide +kernel
theorem dX0_putBlocker_37 : decode cX0_putBlocker 37 = .ok (.invokestatic 102, 3) := by decide +kernel
theorem dX0_putBlocker_40 : decode cX0_putBlocker 40 = .ok (.ireturn, 1) := by decide +kernel
theorem dX0_canUnblock_0 : decode cX0_canUnblock 0 = .ok (.aload_n 0, 1) := by decide +kernel
theorem dX0_canUnblock_1 : decode cX0_canUnblock 1 = .ok (.iload_n 1, 1) := by decide +kernel
theorem dX0_canUnblock_2 : decode cX0_canUnblock 2 = .ok (.iload_n 2, 1) := by decide +kernel
theorem dX0_canUnblock_3 : decode cX0_canUnblock 3 = .ok (.invokevirtual 93, 3) := by decide +kernel
theorem dX0_canUnblock_6 : decode cX0_canUnblock 6 = .ok (.ireturn, 1) := by decide +kernel
theorem dX0_removeBlocker_0 : decode cX0_removeBlocker 0 = .ok (.aload_n 0, 1) := by decide +kernel
theorem dX0_removeBlocker_1 : decode cX0_removeBlocker 1 = .ok (.iload_n 1, 1) := by decide +kernel
theorem dX0_removeBlocker_2 : decode cX0_removeBlocker 2 = .ok (.invokevirtual 66, 3) := by decide +kernel
theorem dX0_removeBlocker_5 : decode cX0_removeBlocker 5 = .ok (.ifCond .eq 11, 3) := by decide +kernel
theorem dX0_removeBlocker_8 : decode cX0_removeBlocker 8 = .ok (.aload_n 0, 1) := by decide +kernel
theorem dX0_removeBlocker_9 : decode cX0_removeBlocker 9 = .ok (.iload_n 2, 1) := by decide +kernel
theorem dX0_removeBlocker_10 : decode cX0_removeBlocker 10 = .ok (.invokevirtual 66, 3) := by decide +kernel
theorem dX0_removeBlocker_13 : decode cX0_removeBlocker 13 = .ok (.ifCond .ne 5, 3) := by decide +kernel
theorem dX0_removeBlocker_16 : decode cX0_removeBlocker 16 = .ok (.iconst (-1), 1) := by decide +kernel
theorem dX0_removeBlocker_17 : decode cX0_removeBlocker 17 = .ok (.ireturn, 1) := by decide +kernel
theorem dX0_removeBlocker_18 : decode cX0_removeBlocker 18 = .ok (.aload_n 0, 1) := by decide +kernel
theorem dX0_removeBlocker_19 : decode cX0_removeBlocker 19 = .ok (.getfield 18, 3) := by decide +kernel
theorem dX0_removeBlocker_22 : decode cX0_removeBlocker 22 = .ok (.iload_n 1, 1) := by decide +kernel
theorem dX0_removeBlocker_23 : decode cX0_removeBlocker 23 = .ok (.dup2, 1) := by decide +kernel
theorem dX0_removeBlocker_24 : decode cX0_removeBlocker 24 = .ok (.iaload, 1) := by decide +kernel
theorem dX0_removeBlocker_25 : decode cX0_removeBlocker 25 = .ok (.iload_n 2, 1) := by decide +kernel
theorem dX0_removeBlocker_26 : decode cX0_removeBlocker 26 = .ok (.invokestatic 99, 3) := by decide +kernel
theorem dX0_removeBlocker_29 : decode cX0_removeBlocker 29 = .ok (.iconst (-1), 1) := by decide +kernel
theorem dX0_removeBlocker_30 : decode cX0_removeBlocker 30 = .ok (.ixor, 1) := by decide +kernel
theorem dX0_removeBlocker_31 : decode cX0_removeBlocker 31 = .ok (.iand, 1) := by decide +kernel
theorem dX0_removeBlocker_32 : decode cX0_removeBlocker 32 = .ok (.iastore, 1) := by decide +kernel
theorem dX0_removeBlocker_33 : decode cX0_removeBlocker 33 = .ok (.aload_n 0, 1) := by decide +kernel
theorem dX0_removeBlocker_34 : decode cX0_removeBlocker 34 = .ok (.getfield 18, 3) := by decide +kernel
theorem dX0_removeBlocker_37 : decode cX0_removeBlocker 37 = .ok (.iload_n 1, 1) := by decide +kernel
theorem dX0_removeBlocker_38 : decode cX0_removeBlocker 38 = .ok (.iaload, 1) := by decide +kernel
theorem dX0_removeBlocker_39 : decode cX0_removeBlocker 39 = .ok (.invokestatic 102, 3) := by decide +kernel
theorem dX0_removeBlocker_42 : decode cX0_removeBlocker 42 = .ok (.ireturn, 1) := by decide +kernel
theorem dX0_openBlockerCount_0 : decode cX0_openBlockerCount 0 = .ok (.aload_n 0, 1) := by decide +kernel
theorem dX0_openBlockerCount_1 : decode cX0_openBlockerCount 1 = .ok (.iload_n 1, 1) := by decide +kernel
theorem dX0_openBlockerCount_2 : decode cX0_openBlockerCount 2 = .ok (.invokevirtual 66, 3) := by decide +kernel
theorem dX0_openBlockerCount_5 : decode cX0_openBlockerCount 5 = .ok (.ifCond .eq 20, 3) := by decide +kernel
theorem dX0_openBlockerCount_8 : decode cX0_openBlockerCount 8 = .ok (.aload_n 0, 1) := by decide +kernel
theorem dX0_openBlockerCount_9 : decode cX0_openBlockerCount 9 = .ok (.getfield 18, 3) := by decide +kernel
theorem dX0_openBlockerCount_12 : decode cX0_openBlockerCount 12 = .ok (.iload_n 1, 1) := by decide +kernel
theorem dX0_openBlockerCount_13 : decode cX0_openBlockerCount 13 = .ok (.iaload, 1) := by decide +kernel
theorem dX0_openBlockerCount_14 : decode cX0_openBlockerCount 14 = .ok (.aload_n 0, 1) := by decide +kernel
theorem dX0_openBlockerCount_15 : decode cX0_openBlockerCount 15 = .ok (.invokevirtual 107, 3) := by decide +kernel
theorem dX0_openBlockerCount_18 : decode cX0_openBlockerCount 18 = .ok (.iand, 1) := by decide +kernel
theorem dX0_openBlockerCount_19 : decode cX0_openBlockerCount 19 = .ok (.invokestatic 102, 3) := by decide +kernel
theorem dX0_openBlockerCount_22 : decode cX0_openBlockerCount 22 = .ok (.goto 4, 3) := by decide +kernel
theorem dX0_openBlockerCount_25 : decode cX0_openBlockerCount 25 = .ok (.iconst 0, 1) := by decide +kernel
theorem dX0_openBlockerCount_26 : decode cX0_openBlockerCount 26 = .ok (.ireturn, 1) := by decide +kernel
theorem dX0_unfinishedSet_0 : decode cX0_unfinishedSet 0 = .ok (.iconst 0, 1) := by decide +kernel
theorem dX0_unfinishedSet_1 : decode cX0_unfinishedSet 1 = .ok (.istore_n 1, 1) := by decide +kernel
theorem dX0_unfinishedSet_2 : decode cX0_unfinishedSet 2 = .ok (.iconst 0, 1) := by decide +kernel
theorem dX0_unfinishedSet_3 : decode cX0_unfinishedSet 3 = .ok (.istore_n 2, 1) := by decide +kernel
theorem dX0_unfinishedSet_4 : decode cX0_unfinishedSet 4 = .ok (.iload_n 2, 1) := by decide +kernel
theorem dX0_unfinishedSet_5 : decode cX0_unfinishedSet 5 = .ok (.aload_n 0, 1) := by decide +kernel
theorem dX0_unfinishedSet_6 : decode cX0_unfinishedSet 6 = .ok (.getfield 15, 3) := by decide +kernel
theorem dX0_unfinishedSet_9 : decode cX0_unfinishedSet 9 = .ok (.arraylength, 1) := by decide +kernel
theorem dX0_unfinishedSet_10 : decode cX0_unfinishedSet 10 = .ok (.if_icmp .ge 25, 3) := by decide +kernel
theorem dX0_unfinishedSet_13 : decode cX0_unfinishedSet 13 = .ok (.aload_n 0, 1) := by decide +kernel
theorem dX0_unfinishedSet_14 : decode cX0_unfinishedSet 14 = .ok (.getfield 15, 3) := by decide +kernel
theorem dX0_unfinishedSet_17 : decode cX0_unfinishedSet 17 = .ok (.iload_n 2, 1) := by decide +kernel
theorem dX0_unfinishedSet_18 : decode cX0_unfinishedSet 18 = .ok (.iaload, 1) := by decide +kernel
theorem dX0_unfinishedSet_19 : decode cX0_unfinishedSet 19 = .ok (.ifCond .le 10, 3) := by decide +kernel
theorem dX0_unfinishedSet_22 : decode cX0_unfinishedSet 22 = .ok (.iload_n 1, 1) := by decide +kernel
theorem dX0_unfinishedSet_23 : decode cX0_unfinishedSet 23 = .ok (.iload_n 2, 1) := by decide +kernel
theorem dX0_unfinishedSet_24 : decode cX0_unfinishedSet 24 = .ok (.invokestatic 99, 3) := by decide +kernel
theorem dX0_unfinishedSet_27 : decode cX0_unfinishedSet 27 = .ok (.ior, 1) := by decide +kernel
theorem dX0_unfinishedSet_28 : decode cX0_unfinishedSet 28 = .ok (.istore_n 1, 1) := by decide +kernel
theorem dX0_unfinishedSet_29 : decode cX0_unfinishedSet 29 = .ok (.iinc 2 1, 3) := by decide +kernel
theorem dX0_unfinishedSet_32 : decode cX0_unfinishedSet 32 = .ok (.goto (-28), 3) := by decide +kernel
theorem dX0_unfinishedSet_35 : decode cX0_unfinishedSet 35 = .ok (.iload_n 1, 1) := by decide +kernel
theorem dX0_unfinishedSet_36 : decode cX0_unfinishedSet 36 = .ok (.ireturn, 1) := by decide +kernel
theorem dX0_finds_0 : decode cX0_finds 0 = .ok (.iconst 0, 1) := by decide +kernel
theorem dX0_finds_1 : decode cX0_finds 1 = .ok (.istore_n 3, 1) := by decide +kernel
theorem dX0_finds_2 : decode cX0_finds 2 = .ok (.aload_n 0, 1) := by decide +kernel
theorem dX0_finds_3 : decode cX0_finds 3 = .ok (.iload_n 1, 1) := by decide +kernel
theorem dX0_finds_4 : decode cX0_finds 4 = .ok (.invokestatic 99, 3) := by decide +kernel
theorem dX0_finds_7 : decode cX0_finds 7 = .ok (.invokevirtual 111, 3) := by decide +kernel
theorem dX0_finds_10 : decode cX0_finds 10 = .ok (.istore 4, 2) := by decide +kernel
theorem dX0_finds_12 : decode cX0_finds 12 = .ok (.iconst 0, 1) := by decide +kernel
theorem dX0_finds_13 : decode cX0_finds 13 = .ok (.istore 5, 2) := by decide +kernel
theorem dX0_finds_15 : decode cX0_finds 15 = .ok (.iload 5, 2) := by decide +kernel
theorem dX0_finds_17 : decode cX0_finds 17 = .ok (.bipush 16, 2) := by decide +kernel
theorem dX0_finds_19 : decode cX0_finds 19 = .ok (.if_icmp .ge 42, 3) := by decide +kernel
theorem dX0_finds_22 : decode cX0_finds 22 = .ok (.iload 4, 2) := by decide +kernel
theorem dX0_finds_24 : decode cX0_finds 24 = .ok (.ifCond .eq 37, 3) := by decide +kernel
theorem dX0_finds_27 : decode cX0_finds 27 = .ok (.iload 4, 2) := by decide +kernel
theorem dX0_finds_29 : decode cX0_finds 29 = .ok (.iload_n 2, 1) := by decide +kernel
theorem dX0_finds_30 : decode cX0_finds 30 = .ok (.invokestatic 70, 3) := by decide +kernel
theorem dX0_finds_33 : decode cX0_finds 33 = .ok (.ifCond .eq 5, 3) := by decide +kernel
theorem dX0_finds_36 : decode cX0_finds 36 = .ok (.iconst 1, 1) := by decide +kernel
theorem dX0_finds_37 : decode cX0_finds 37 = .ok (.ireturn, 1) := by decide +kernel
theorem dX0_finds_38 : decode cX0_finds 38 = .ok (.iload_n 3, 1) := by decide +kernel
theorem dX0_finds_39 : decode cX0_finds 39 = .ok (.iload 4, 2) := by decide +kernel
theorem dX0_finds_41 : decode cX0_finds 41 = .ok (.ior, 1) := by decide +kernel
theorem dX0_finds_42 : decode cX0_finds 42 = .ok (.istore_n 3, 1) := by decide +kernel
theorem dX0_finds_43 : decode cX0_finds 43 = .ok (.aload_n 0, 1) := by decide +kernel
theorem dX0_finds_44 : decode cX0_finds 44 = .ok (.iload 4, 2) := by decide +kernel
theorem dX0_finds_46 : decode cX0_finds 46 = .ok (.invokevirtual 111, 3) := by decide +kernel
theorem dX0_finds_49 : decode cX0_finds 49 = .ok (.iload_n 3, 1) := by decide +kernel
theorem dX0_finds_50 : decode cX0_finds 50 = .ok (.iconst (-1), 1) := by decide +kernel
theorem dX0_finds_51 : decode cX0_finds 51 = .ok (.ixor, 1) := by decide +kernel
theorem dX0_finds_52 : decode cX0_finds 52 = .ok (.iand, 1) := by decide +kernel
theorem dX0_finds_53 : decode cX0_finds 53 = .ok (.istore 4, 2) := by decide +kernel
theorem dX0_finds_55 : decode cX0_finds 55 = .ok (.iinc 5 1, 3) := by decide +kernel
theorem dX0_finds_58 : decode cX0_finds 58 = .ok (.goto (-43), 3) := by decide +kernel
theorem dX0_finds_61 : decode cX0_finds 61 = .ok (.iconst 0, 1) := by decide +kernel
theorem dX0_finds_62 : decode cX0_finds 62 = .ok (.ireturn, 1) := by decide +kernel
theorem dX0_blockersOfAny_0 : decode cX0_blockersOfAny 0 = .ok (.iconst 0, 1) := by decide +kernel
theorem dX0_blockersOfAny_1 : decode cX0_blockersOfAny 1 = .ok (.istore_n 2, 1) := by decide +kernel
theorem dX0_blockersOfAny_2 : decode cX0_blockersOfAny 2 = .ok (.iconst 0, 1) := by decide +kernel
theorem dX0_blockersOfAny_3 : decode cX0_blockersOfAny 3 = .ok (.istore_n 3, 1) := by decide +kernel
theorem dX0_blockersOfAny_4 : decode cX0_blockersOfAny 4 = .ok (.iload_n 3, 1) := by decide +kernel
theorem dX0_blockersOfAny_5 : decode cX0_blockersOfAny 5 = .ok (.aload_n 0, 1) := by decide +kernel
theorem dX0_blockersOfAny_6 : decode cX0_blockersOfAny 6 = .ok (.getfield 18, 3) := by decide +kernel
theorem dX0_blockersOfAny_9 : decode cX0_blockersOfAny 9 = .ok (.arraylength, 1) := by decide +kernel
theorem dX0_blockersOfAny_10 : decode cX0_blockersOfAny 10 = .ok (.if_icmp .ge 26, 3) := by decide +kernel
theorem dX0_blockersOfAny_13 : decode cX0_blockersOfAny 13 = .ok (.iload_n 1, 1) := by decide +kernel
theorem dX0_blockersOfAny_14 : decode cX0_blockersOfAny 14 = .ok (.iload_n 3, 1) := by decide +kernel
theorem dX0_blockersOfAny_15 : decode cX0_blockersOfAny 15 = .ok (.invokestatic 70, 3) := by decide +kernel
theorem dX0_blockersOfAny_18 : decode cX0_blockersOfAny 18 = .ok (.ifCond .eq 12, 3) := by decide +kernel
theorem dX0_blockersOfAny_21 : decode cX0_blockersOfAny 21 = .ok (.iload_n 2, 1) := by decide +kernel
theorem dX0_blockersOfAny_22 : decode cX0_blockersOfAny 22 = .ok (.aload_n 0, 1) := by decide +kernel
theorem dX0_blockersOfAny_23 : decode cX0_blockersOfAny 23 = .ok (.getfield 18, 3) := by decide +kernel
theorem dX0_blockersOfAny_26 : decode cX0_blockersOfAny 26 = .ok (.iload_n 3, 1) := by decide +kernel
theorem dX0_blockersOfAny_27 : decode cX0_blockersOfAny 27 = .ok (.iaload, 1) := by decide +kernel
theorem dX0_blockersOfAny_28 : decode cX0_blockersOfAny 28 = .ok (.ior, 1) := by decide +kernel
theorem dX0_blockersOfAny_29 : decode cX0_blockersOfAny 29 = .ok (.istore_n 2, 1) := by decide +kernel
theorem dX0_blockersOfAny_30 : decode cX0_blockersOfAny 30 = .ok (.iinc 3 1, 3) := by decide +kernel
theorem dX0_blockersOfAny_33 : decode cX0_blockersOfAny 33 = .ok (.goto (-29), 3) := by decide +kernel
theorem dX0_blockersOfAny_36 : decode cX0_blockersOfAny 36 = .ok (.iload_n 2, 1) := by decide +kernel
theorem dX0_blockersOfAny_37 : decode cX0_blockersOfAny 37 = .ok (.ireturn, 1) := by decide +kernel
theorem dX0_closeInto_0 : decode cX0_closeInto 0 = .ok (.aload_n 0, 1) := by decide +kernel
theorem dX0_closeInto_1 : decode cX0_closeInto 1 = .ok (.getfield 18, 3) := by decide +kernel
theorem dX0_closeInto_4 : decode cX0_closeInto 4 = .ok (.aload_n 1, 1) := by decide +kernel
theorem dX0_closeInto_5 : decode cX0_closeInto 5 = .ok (.invokestatic 33, 3) := by decide +kernel
theorem dX0_closeInto_8 : decode cX0_closeInto 8 = .ok (.iconst 0, 1) := by decide +kernel
theorem dX0_closeInto_9 : decode cX0_closeInto 9 = .ok (.istore_n 2, 1) := by decide +kernel
theorem dX0_closeInto_10 : decode cX0_closeInto 10 = .ok (.iload_n 2, 1) := by decide +kernel
theorem dX0_closeInto_11 : decode cX0_closeInto 11 = .ok (.aload_n 1, 1) := by decide +kernel
theorem dX0_closeInto_12 : decode cX0_closeInto 12 = .ok (.arraylength, 1) := by decide +kernel
theorem dX0_closeInto_13 : decode cX0_closeInto 13 = .ok (.if_icmp .ge 42, 3) := by decide +kernel
theorem dX0_closeInto_16 : decode cX0_closeInto 16 = .ok (.iconst 0, 1) := by decide +kernel
theorem dX0_closeInto_17 : decode cX0_closeInto 17 = .ok (.istore_n 3, 1) := by decide +kernel
theorem dX0_closeInto_18 : decode cX0_closeInto 18 = .ok (.iload_n 3, 1) := by decide +kernel
theorem dX0_closeInto_19 : decode cX0_closeInto 19 = .ok (.aload_n 1, 1) := by decide +kernel
theorem dX0_closeInto_20 : decode cX0_closeInto 20 = .ok (.arraylength, 1) := by decide +kernel
theorem dX0_closeInto_21 : decode cX0_closeInto 21 = .ok (.if_icmp .ge 28, 3) := by decide +kernel
theorem dX0_closeInto_24 : decode cX0_closeInto 24 = .ok (.aload_n 1, 1) := by decide +kernel
theorem dX0_closeInto_25 : decode cX0_closeInto 25 = .ok (.iload_n 3, 1) := by decide +kernel
theorem dX0_closeInto_26 : decode cX0_closeInto 26 = .ok (.iaload, 1) := by decide +kernel
theorem dX0_closeInto_27 : decode cX0_closeInto 27 = .ok (.iload_n 2, 1) := by decide +kernel
theorem dX0_closeInto_28 : decode cX0_closeInto 28 = .ok (.invokestatic 70, 3) := by decide +kernel
theorem dX0_closeInto_31 : decode cX0_closeInto 31 = .ok (.ifCond .eq 12, 3) := by decide +kernel
theorem dX0_closeInto_34 : decode cX0_closeInto 34 = .ok (.aload_n 1, 1) := by decide +kernel
theorem dX0_closeInto_35 : decode cX0_closeInto 35 = .ok (.iload_n 3, 1) := by decide +kernel
theorem dX0_closeInto_36 : decode cX0_closeInto 36 = .ok (.dup2, 1) := by decide +kernel
theorem dX0_closeInto_37 : decode cX0_closeInto 37 = .ok (.iaload, 1) := by decide +kernel
theorem dX0_closeInto_38 : decode cX0_closeInto 38 = .ok (.aload_n 1, 1) := by decide +kernel
theorem dX0_closeInto_39 : decode cX0_closeInto 39 = .ok (.iload_n 2, 1) := by decide +kernel
theorem dX0_closeInto_40 : decode cX0_closeInto 40 = .ok (.iaload, 1) := by decide +kernel
theorem dX0_closeInto_41 : decode cX0_closeInto 41 = .ok (.ior, 1) := by decide +kernel
theorem dX0_closeInto_42 : decode cX0_closeInto 42 = .ok (.iastore, 1) := by decide +kernel
theorem dX0_closeInto_43 : decode cX0_closeInto 43 = .ok (.iinc 3 1, 3) := by decide +kernel
theorem dX0_closeInto_46 : decode cX0_closeInto 46 = .ok (.goto (-28), 3) := by decide +kernel
theorem dX0_closeInto_49 : decode cX0_closeInto 49 = .ok (.iinc 2 1, 3) := by decide +kernel
theorem dX0_closeInto_52 : decode cX0_closeInto 52 = .ok (.goto (-42), 3) := by decide +kernel
theorem dX0_closeInto_55 : decode cX0_closeInto 55 = .ok (.return_, 1) := by decide +kernel
theorem dX0_chainLength_0 : decode cX0_chainLength 0 = .ok (.iconst 0, 1) := by decide +kernel
theorem dX0_chainLength_1 : decode cX0_chainLength 1 = .ok (.istore_n 2, 1) := by decide +kernel
theorem dX0_chainLength_2 : decode cX0_chainLength 2 = .ok (.iload_n 1, 1) := by decide +kernel
theorem dX0_chainLength_3 : decode cX0_chainLength 3 = .ok (.invokestatic 99, 3) := by decide +kernel
theorem dX0_chainLength_6 : decode cX0_chainLength 6 = .ok (.istore_n 3, 1) := by decide +kernel
theorem dX0_chainLength_7 : decode cX0_chainLength 7 = .ok (.iload_n 2, 1) := by decide +kernel
theorem dX0_chainLength_8 : decode cX0_chainLength 8 = .ok (.bipush 16, 2) := by decide +kernel
theorem dX0_chainLength_10 : decode cX0_chainLength 10 = .ok (.if_icmp .ge 19, 3) := by decide +kernel
theorem dX0_chainLength_13 : decode cX0_chainLength 13 = .ok (.iload_n 3, 1) := by decide +kernel
theorem dX0_chainLength_14 : decode cX0_chainLength 14 = .ok (.ifCond .eq 15, 3) := by decide +kernel
theorem dX0_chainLength_17 : decode cX0_chainLength 17 = .ok (.aload_n 0, 1) := by decide +kernel
theorem dX0_chainLength_18 : decode cX0_chainLength 18 = .ok (.iload_n 3, 1) := by decide +kernel
theorem dX0_chainLength_19 : decode cX0_chainLength 19 = .ok (.invokevirtual 111, 3) := by decide +kernel
theorem dX0_chainLength_22 : decode cX0_chainLength 22 = .ok (.istore_n 3, 1) := by decide +kernel
theorem dX0_chainLength_23 : decode cX0_chainLength 23 = .ok (.iinc 2 1, 3) := by decide +kernel
theorem dX0_chainLength_26 : decode cX0_chainLength 26 = .ok (.goto (-19), 3) := by decide +kernel
theorem dX0_chainLength_29 : decode cX0_chainLength 29 = .ok (.iload_n 2, 1) := by decide +kernel
theorem dX0_chainLength_30 : decode cX0_chainLength 30 = .ok (.ireturn, 1) := by decide +kernel
theorem dX0_storyAt_0 : decode cX0_storyAt 0 = .ok (.iconst 0, 1) := by decide +kernel
theorem dX0_storyAt_1 : decode cX0_storyAt 1 = .ok (.istore_n 2, 1) := by decide +kernel
theorem dX0_storyAt_2 : decode cX0_storyAt 2 = .ok (.iconst 0, 1) := by decide +kernel
theorem dX0_storyAt_3 : decode cX0_storyAt 3 = .ok (.istore_n 3, 1) := by decide +kernel
theorem dX0_storyAt_4 : decode cX0_storyAt 4 = .ok (.iload_n 3, 1) := by decide +kernel
theorem dX0_storyAt_5 : decode cX0_storyAt 5 = .ok (.aload_n 0, 1) := by decide +kernel
theorem dX0_storyAt_6 : decode cX0_storyAt 6 = .ok (.getfield 37, 3) := by decide +kernel
theorem dX0_storyAt_9 : decode cX0_storyAt 9 = .ok (.if_icmp .ge 38, 3) := by decide +kernel
theorem dX0_storyAt_12 : decode cX0_storyAt 12 = .ok (.aload_n 0, 1) := by decide +kernel
theorem dX0_storyAt_13 : decode cX0_storyAt 13 = .ok (.iload_n 2, 1) := by decide +kernel
theorem dX0_storyAt_14 : decode cX0_storyAt 14 = .ok (.invokevirtual 114, 3) := by decide +kernel
theorem dX0_storyAt_17 : decode cX0_storyAt 17 = .ok (.istore 4, 2) := by decide +kernel
theorem dX0_storyAt_19 : decode cX0_storyAt 19 = .ok (.iload 4, 2) := by decide +kernel
theorem dX0_storyAt_21 : decode cX0_storyAt 21 = .ok (.iconst (-1), 1) := by decide +kernel
theorem dX0_storyAt_22 : decode cX0_storyAt 22 = .ok (.if_icmp .eq 8, 3) := by decide +kernel
theorem dX0_storyAt_25 : decode cX0_storyAt 25 = .ok (.iload_n 3, 1) := by decide +kernel
theorem dX0_storyAt_26 : decode cX0_storyAt 26 = .ok (.iload_n 1, 1) := by decide +kernel
theorem dX0_storyAt_27 : decode cX0_storyAt 27 = .ok (.if_icmp .ne 6, 3) := by decide +kernel
theorem dX0_storyAt_30 : decode cX0_storyAt 30 = .ok (.iload 4, 2) := by decide +kernel
theorem dX0_storyAt_32 : decode cX0_storyAt 32 = .ok (.ireturn, 1) := by decide +kernel
theorem dX0_storyAt_33 : decode cX0_storyAt 33 = .ok (.iload_n 2, 1) := by decide +kernel
theorem dX0_storyAt_34 : decode cX0_storyAt 34 = .ok (.iload 4, 2) := by decide +kernel
theorem dX0_storyAt_36 : decode cX0_storyAt 36 = .ok (.invokestatic 99, 3) := by decide +kernel
theorem dX0_storyAt_39 : decode cX0_storyAt 39 = .ok (.ior, 1) := by decide +kernel
theorem dX0_storyAt_40 : decode cX0_storyAt 40 = .ok (.istore_n 2, 1) := by decide +kernel
theorem dX0_storyAt_41 : decode cX0_storyAt 41 = .ok (.iinc 3 1, 3) := by decide +kernel
theorem dX0_storyAt_44 : decode cX0_storyAt 44 = .ok (.goto (-40), 3) := by decide +kernel
theorem dX0_storyAt_47 : decode cX0_storyAt 47 = .ok (.iconst (-1), 1) := by decide +kernel
theorem dX0_storyAt_48 : decode cX0_storyAt 48 = .ok (.ireturn, 1) := by decide +kernel
theorem dX0_firstReady_0 : decode cX0_firstReady 0 = .ok (.iconst 0, 1) := by decide +kernel
theorem dX0_firstReady_1 : decode cX0_firstReady 1 = .ok (.istore_n 2, 1) := by decide +kernel
theorem dX0_firstReady_2 : decode cX0_firstReady 2 = .ok (.iload_n 2, 1) := by decide +kernel
theorem dX0_firstReady_3 : decode cX0_firstReady 3 = .ok (.aload_n 0, 1) := by decide +kernel
theorem dX0_firstReady_4 : decode cX0_firstReady 4 = .ok (.getfield 37, 3) := by decide +kernel
theorem dX0_firstReady_7 : decode cX0_firstReady 7 = .ok (.if_icmp .ge 41, 3) := by decide +kernel
theorem dX0_firstReady_10 : decode cX0_firstReady 10 = .ok (.iload_n 2, 1) := by decide +kernel
theorem dX0_firstReady_11 : decode cX0_firstReady 11 = .ok (.aload_n 0, 1) := by decide +kernel
theorem dX0_firstReady_12 : decode cX0_firstReady 12 = .ok (.getfield 18, 3) := by decide +kernel
theorem dX0_firstReady_15 : decode cX0_firstReady 15 = .ok (.arraylength, 1) := by decide +kernel
theorem dX0_firstReady_16 : decode cX0_firstReady 16 = .ok (.if_icmp .ge 32, 3) := by decide +kernel
theorem dX0_firstReady_19 : decode cX0_firstReady 19 = .ok (.iload_n 1, 1) := by decide +kernel
theorem dX0_firstReady_20 : decode cX0_firstReady 20 = .ok (.iload_n 2, 1) := by decide +kernel
theorem dX0_firstReady_21 : decode cX0_firstReady 21 = .ok (.invokestatic 70, 3) := by decide +kernel
theorem dX0_firstReady_24 : decode cX0_firstReady 24 = .ok (.ifCond .ne 18, 3) := by decide +kernel
theorem dX0_firstReady_27 : decode cX0_firstReady 27 = .ok (.aload_n 0, 1) := by decide +kernel
theorem dX0_firstReady_28 : decode cX0_firstReady 28 = .ok (.getfield 18, 3) := by decide +kernel
theorem dX0_firstReady_31 : decode cX0_firstReady 31 = .ok (.iload_n 2, 1) := by decide +kernel
theorem dX0_firstReady_32 : decode cX0_firstReady 32 = .ok (.iaload, 1) := by decide +kernel
theorem dX0_firstReady_33 : decode cX0_firstReady 33 = .ok (.iload_n 1, 1) := by decide +kernel
theorem dX0_firstReady_34 : decode cX0_firstReady 34 = .ok (.iconst (-1), 1) := by decide +kernel
theorem dX0_firstReady_35 : decode cX0_firstReady 35 = .ok (.ixor, 1) := by decide +kernel
theorem dX0_firstReady_36 : decode cX0_firstReady 36 = .ok (.iand, 1) := by decide +kernel
theorem dX0_firstReady_37 : decode cX0_firstReady 37 = .ok (.ifCond .ne 5, 3) := by decide +kernel
theorem dX0_firstReady_40 : decode cX0_firstReady 40 = .ok (.iload_n 2, 1) := by decide +kernel
theorem dX0_firstReady_41 : decode cX0_firstReady 41 = .ok (.ireturn, 1) := by decide +kernel
theorem dX0_firstReady_42 : decode cX0_firstReady 42 = .ok (.iinc 2 1, 3) := by decide +kernel
theorem dX0_firstReady_45 : decode cX0_firstReady 45 = .ok (.goto (-43), 3) := by decide +kernel
theorem dX0_firstReady_48 : decode cX0_firstReady 48 = .ok (.iconst (-1), 1) := by decide +kernel
theorem dX0_firstReady_49 : decode cX0_firstReady 49 = .ok (.ireturn, 1) := by decide +kernel
theorem dX0_canAddDeveloper_0 : decode cX0_canAddDeveloper 0 = .ok (.iload_n 1, 1) := by decide +kernel
theorem dX0_canAddDeveloper_1 : decode cX0_canAddDeveloper 1 = .ok (.invokestatic 117, 3) := by decide +kernel
theorem dX0_canAddDeveloper_4 : decode cX0_canAddDeveloper 4 = .ok (.ifCond .eq 15, 3) := by decide +kernel
theorem dX0_canAddDeveloper_7 : decode cX0_canAddDeveloper 7 = .ok (.aload_n 0, 1) := by decide +kernel
theorem dX0_canAddDeveloper_8 : decode cX0_canAddDeveloper 8 = .ok (.getfield 41, 3) := by decide +kernel
theorem dX0_canAddDeveloper_11 : decode cX0_canAddDeveloper 11 = .ok (.iconst 4, 1) := by decide +kernel
theorem dX0_canAddDeveloper_12 : decode cX0_canAddDeveloper 12 = .ok (.if_icmp .ge 7, 3) := by decide +kernel
theorem dX0_canAddDeveloper_15 : decode cX0_canAddDeveloper 15 = .ok (.iconst 1, 1) := by decide +kernel
theorem dX0_canAddDeveloper_16 : decode cX0_canAddDeveloper 16 = .ok (.goto 4, 3) := by decide +kernel
theorem dX0_canAddDeveloper_19 : decode cX0_canAddDeveloper 19 = .ok (.iconst 0, 1) := by decide +kernel
theorem dX0_canAddDeveloper_20 : decode cX0_canAddDeveloper 20 = .ok (.ireturn, 1) := by decide +kernel
theorem dX0_putDeveloper_0 : decode cX0_putDeveloper 0 = .ok (.aload_n 0, 1) := by decide +kernel
theorem dX0_putDeveloper_1 : decode cX0_putDeveloper 1 = .ok (.getfield 41, 3) := by decide +kernel
theorem dX0_putDeveloper_4 : decode cX0_putDeveloper 4 = .ok (.istore_n 2, 1) := by decide +kernel
theorem dX0_putDeveloper_5 : decode cX0_putDeveloper 5 = .ok (.iload_n 2, 1) := by decide +kernel
theorem dX0_putDeveloper_6 : decode cX0_putDeveloper 6 = .ok (.ifCond .lt 8, 3) := by decide +kernel
theorem dX0_putDeveloper_9 : decode cX0_putDeveloper 9 = .ok (.iload_n 2, 1) := by decide +kernel
theorem dX0_putDeveloper_10 : decode cX0_putDeveloper 10 = .ok (.iconst 4, 1) := by decide +kernel
theorem dX0_putDeveloper_11 : decode cX0_putDeveloper 11 = .ok (.if_icmp .lt 5, 3) := by decide +kernel
theorem dX0_putDeveloper_14 : decode cX0_putDeveloper 14 = .ok (.iconst (-1), 1) := by decide +kernel
theorem dX0_putDeveloper_15 : decode cX0_putDeveloper 15 = .ok (.ireturn, 1) := by decide +kernel
theorem dX0_putDeveloper_16 : decode cX0_putDeveloper 16 = .ok (.aload_n 0, 1) := by decide +kernel
theorem dX0_putDeveloper_17 : decode cX0_putDeveloper 17 = .ok (.getfield 21, 3) := by decide +kernel
theorem dX0_putDeveloper_20 : decode cX0_putDeveloper 20 = .ok (.iload_n 2, 1) := by decide +kernel
theorem dX0_putDeveloper_21 : decode cX0_putDeveloper 21 = .ok (.iload_n 1, 1) := by decide +kernel
theorem dX0_putDeveloper_22 : decode cX0_putDeveloper 22 = .ok (.iastore, 1) := by decide +kernel
theorem dX0_putDeveloper_23 : decode cX0_putDeveloper 23 = .ok (.aload_n 0, 1) := by decide +kernel
theorem dX0_putDeveloper_24 : decode cX0_putDeveloper 24 = .ok (.getfield 24, 3) := by decide +kernel
theorem dX0_putDeveloper_27 : decode cX0_putDeveloper 27 = .ok (.iload_n 2, 1) := by decide +kernel
theorem dX0_putDeveloper_28 : decode cX0_putDeveloper 28 = .ok (.iconst (-1), 1) := by decide +kernel
theorem dX0_putDeveloper_29 : decode cX0_putDeveloper 29 = .ok (.iastore, 1) := by decide +kernel
theorem dX0_putDeveloper_30 : decode cX0_putDeveloper 30 = .ok (.aload_n 0, 1) := by decide +kernel
theorem dX0_putDeveloper_31 : decode cX0_putDeveloper 31 = .ok (.dup, 1) := by decide +kernel
theorem dX0_putDeveloper_32 : decode cX0_putDeveloper 32 = .ok (.getfield 41, 3) := by decide +kernel
theorem dX0_putDeveloper_35 : decode cX0_putDeveloper 35 = .ok (.iconst 1, 1) := by decide +kernel
theorem dX0_putDeveloper_36 : decode cX0_putDeveloper 36 = .ok (.iadd, 1) := by decide +kernel
theorem dX0_putDeveloper_37 : decode cX0_putDeveloper 37 = .ok (.putfield 41, 3) := by decide +kernel
theorem dX0_putDeveloper_40 : decode cX0_putDeveloper 40 = .ok (.iload_n 2, 1) := by decide +kernel
theorem dX0_putDeveloper_41 : decode cX0_putDeveloper 41 = .ok (.ireturn, 1) := by decide +kernel
theorem dX0_canAssign_0 : decode cX0_canAssign 0 = .ok (.aload_n 0, 1) := by decide +kernel
theorem dX0_canAssign_1 : decode cX0_canAssign 1 = .ok (.getfield 47, 3) := by decide +kernel
theorem dX0_canAssign_4 : decode cX0_canAssign 4 = .ok (.ifCond .eq 50, 3) := by decide +kernel
theorem dX0_canAssign_7 : decode cX0_canAssign 7 = .ok (.aload_n 0, 1) := by decide +kernel
theorem dX0_canAssign_8 : decode cX0_canAssign 8 = .ok (.iload_n 1, 1) := by decide +kernel
theorem dX0_canAssign_9 : decode cX0_canAssign 9 = .ok (.invokevirtual 120, 3) := by decide +kernel
theorem dX0_canAssign_12 : decode cX0_canAssign 12 = .ok (.ifCond .eq 42, 3) := by decide +kernel
theorem dX0_canAssign_15 : decode cX0_canAssign 15 = .ok (.aload_n 0, 1) := by decide +kernel
theorem dX0_canAssign_16 : decode cX0_canAssign 16 = .ok (.iload_n 1, 1) := by decide +kernel
theorem dX0_canAssign_17 : decode cX0_canAssign 17 = .ok (.invokevirtual 77, 3) := by decide +kernel
theorem dX0_canAssign_20 : decode cX0_canAssign 20 = .ok (.ifCond .ne 34, 3) := by decide +kernel
theorem dX0_canAssign_23 : decode cX0_canAssign 23 = .ok (.aload_n 0, 1) := by decide +kernel
theorem dX0_canAssign_24 : decode cX0_canAssign 24 = .ok (.iload_n 1, 1) := by decide +kernel
theorem dX0_canAssign_25 : decode cX0_canAssign 25 = .ok (.invokevirtual 86, 3) := by decide +kernel
theorem dX0_canAssign_28 : decode cX0_canAssign 28 = .ok (.iconst (-1), 1) := by decide +kernel
theorem dX0_canAssign_29 : decode cX0_canAssign 29 = .ok (.if_icmp .ne 25, 3) := by decide +kernel
theorem dX0_canAssign_32 : decode cX0_canAssign 32 = .ok (.aload_n 0, 1) := by decide +kernel
theorem dX0_canAssign_33 : decode cX0_canAssign 33 = .ok (.iload_n 2, 1) := by decide +kernel
theorem dX0_canAssign_34 : decode cX0_canAssign 34 = .ok (.invokevirtual 90, 3) := by decide +kernel
theorem dX0_canAssign_37 : decode cX0_canAssign 37 = .ok (.ifCond .eq 17, 3) := by decide +kernel
theorem dX0_canAssign_40 : decode cX0_canAssign 40 = .ok (.aload_n 0, 1) := by decide +kernel
theorem dX0_canAssign_41 : decode cX0_canAssign 41 = .ok (.getfield 24, 3) := by decide +kernel
theorem dX0_canAssign_44 : decode cX0_canAssign 44 = .ok (.iload_n 2, 1) := by decide +kernel
theorem dX0_canAssign_45 : decode cX0_canAssign 45 = .ok (.iaload, 1) := by decide +kernel
theorem dX0_canAssign_46 : decode cX0_canAssign 46 = .ok (.iconst (-1), 1) := by decide +kernel
theorem dX0_canAssign_47 : decode cX0_canAssign 47 = .ok (.if_icmp .ne 7, 3) := by decide +kernel
theorem dX0_canAssign_50 : decode cX0_canAssign 50 = .ok (.iconst 1, 1) := by decide +kernel
theorem dX0_canAssign_51 : decode cX0_canAssign 51 = .ok (.goto 4, 3) := by decide +kernel
theorem dX0_canAssign_54 : decode cX0_canAssign 54 = .ok (.iconst 0, 1) := by decide +kernel
theorem dX0_canAssign_55 : decode cX0_canAssign 55 = .ok (.ireturn, 1) := by decide +kernel
theorem dX0_putAssignment_0 : decode cX0_putAssignment 0 = .ok (.aload_n 0, 1) := by decide +kernel
theorem dX0_putAssignment_1 : decode cX0_putAssignment 1 = .ok (.iload_n 1, 1) := by decide +kernel
theorem dX0_putAssignment_2 : decode cX0_putAssignment 2 = .ok (.invokevirtual 66, 3) := by decide +kernel
theorem dX0_putAssignment_5 : decode cX0_putAssignment 5 = .ok (.ifCond .eq 18, 3) := by decide +kernel
theorem dX0_putAssignment_8 : decode cX0_putAssignment 8 = .ok (.aload_n 0, 1) := by decide +kernel
theorem dX0_putAssignment_9 : decode cX0_putAssignment 9 = .ok (.iload_n 2, 1) := by decide +kernel
theorem dX0_putAssignment_10 : decode cX0_putAssignment 10 = .ok (.invokevirtual 90, 3) := by decide +kernel
theorem dX0_putAssignment_13 : decode cX0_putAssignment 13 = .ok (.ifCond .eq 10, 3) := by decide +kernel
theorem dX0_putAssignment_16 : decode cX0_putAssignment 16 = .ok (.aload_n 0, 1) := by decide +kernel
theorem dX0_putAssignment_17 : decode cX0_putAssignment 17 = .ok (.getfield 24, 3) := by decide +kernel
theorem dX0_putAssignment_20 : decode cX0_putAssignment 20 = .ok (.iload_n 2, 1) := by decide +kernel
theorem dX0_putAssignment_21 : decode cX0_putAssignment 21 = .ok (.iload_n 1, 1) := by decide +kernel
theorem dX0_putAssignment_22 : decode cX0_putAssignment 22 = .ok (.iastore, 1) := by decide +kernel
theorem dX0_putAssignment_23 : decode cX0_putAssignment 23 = .ok (.return_, 1) := by decide +kernel
theorem dX0_canUnassign_0 : decode cX0_canUnassign 0 = .ok (.aload_n 0, 1) := by decide +kernel
theorem dX0_canUnassign_1 : decode cX0_canUnassign 1 = .ok (.iload_n 1, 1) := by decide +kernel
theorem dX0_canUnassign_2 : decode cX0_canUnassign 2 = .ok (.invokevirtual 90, 3) := by decide +kernel
theorem dX0_canUnassign_5 : decode cX0_canUnassign 5 = .ok (.ifCond .eq 17, 3) := by decide +kernel
theorem dX0_canUnassign_8 : decode cX0_canUnassign 8 = .ok (.aload_n 0, 1) := by decide +kernel
theorem dX0_canUnassign_9 : decode cX0_canUnassign 9 = .ok (.getfield 24, 3) := by decide +kernel
theorem dX0_canUnassign_12 : decode cX0_canUnassign 12 = .ok (.iload_n 1, 1) := by decide +kernel
theorem dX0_canUnassign_13 : decode cX0_canUnassign 13 = .ok (.iaload, 1) := by decide +kernel
theorem dX0_canUnassign_14 : decode cX0_canUnassign 14 = .ok (.iconst (-1), 1) := by decide +kernel
theorem dX0_canUnassign_15 : decode cX0_canUnassign 15 = .ok (.if_icmp .eq 7, 3) := by decide +kernel
theorem dX0_canUnassign_18 : decode cX0_canUnassign 18 = .ok (.iconst 1, 1) := by decide +kernel
theorem dX0_canUnassign_19 : decode cX0_canUnassign 19 = .ok (.goto 4, 3) := by decide +kernel
theorem dX0_canUnassign_22 : decode cX0_canUnassign 22 = .ok (.iconst 0, 1) := by decide +kernel
theorem dX0_canUnassign_23 : decode cX0_canUnassign 23 = .ok (.ireturn, 1) := by decide +kernel
theorem dX0_removeAssignment_0 : decode cX0_removeAssignment 0 = .ok (.aload_n 0, 1) := by decide +kernel
theorem dX0_removeAssignment_1 : decode cX0_removeAssignment 1 = .ok (.iload_n 1, 1) := by decide +kernel
theorem dX0_removeAssignment_2 : decode cX0_removeAssignment 2 = .ok (.invokevirtual 90, 3) := by decide +kernel
theorem dX0_removeAssignment_5 : decode cX0_removeAssignment 5 = .ok (.ifCond .ne 5, 3) := by decide +kernel
theorem dX0_removeAssignment_8 : decode cX0_removeAssignment 8 = .ok (.iconst (-1), 1) := by decide +kernel
theorem dX0_removeAssignment_9 : decode cX0_removeAssignment 9 = .ok (.ireturn, 1) := by decide +kernel
theorem dX0_removeAssignment_10 : decode cX0_removeAssignment 10 = .ok (.aload_n 0, 1) := by decide +kernel
theorem dX0_removeAssignment_11 : decode cX0_removeAssignment 11 = .ok (.getfield 24, 3) := by decide +kernel
theorem dX0_removeAssignment_14 : decode cX0_removeAssignment 14 = .ok (.iload_n 1, 1) := by decide +kernel
theorem dX0_removeAssignment_15 : decode cX0_removeAssignment 15 = .ok (.iaload, 1) := by decide +kernel
theorem dX0_removeAssignment_16 : decode cX0_removeAssignment 16 = .ok (.istore_n 2, 1) := by decide +kernel
theorem dX0_removeAssignment_17 : decode cX0_removeAssignment 17 = .ok (.aload_n 0, 1) := by decide +kernel
theorem dX0_removeAssignment_18 : decode cX0_removeAssignment 18 = .ok (.getfield 24, 3) := by decide +kernel
theorem dX0_removeAssignment_21 : decode cX0_removeAssignment 21 = .ok (.iload_n 1, 1) := by decide +kernel
theorem dX0_removeAssignment_22 : decode cX0_removeAssignment 22 = .ok (.iconst (-1), 1) := by decide +kernel
theorem dX0_removeAssignment_23 : decode cX0_removeAssignment 23 = .ok (.iastore, 1) := by decide +kernel
theorem dX0_removeAssignment_24 : decode cX0_removeAssignment 24 = .ok (.iload_n 2, 1) := by decide +kernel
theorem dX0_removeAssignment_25 : decode cX0_removeAssignment 25 = .ok (.ireturn, 1) := by decide +kernel
theorem dX0_assigneeOf_0 : decode cX0_assigneeOf 0 = .ok (.iconst 0, 1) := by decide +kernel
theorem dX0_assigneeOf_1 : decode cX0_assigneeOf 1 = .ok (.istore_n 2, 1) := by decide +kernel
theorem dX0_assigneeOf_2 : decode cX0_assigneeOf 2 = .ok (.iload_n 2, 1) := by decide +kernel
theorem dX0_assigneeOf_3 : decode cX0_assigneeOf 3 = .ok (.aload_n 0, 1) := by decide +kernel
theorem dX0_assigneeOf_4 : decode cX0_assigneeOf 4 = .ok (.getfield 24, 3) := by decide +kernel
theorem dX0_assigneeOf_7 : decode cX0_assigneeOf 7 = .ok (.arraylength, 1) := by decide +kernel
theorem dX0_assigneeOf_8 : decode cX0_assigneeOf 8 = .ok (.if_icmp .ge 21, 3) := by decide +kernel
theorem dX0_assigneeOf_11 : decode cX0_assigneeOf 11 = .ok (.aload_n 0, 1) := by decide +kernel
theorem dX0_assigneeOf_12 : decode cX0_assigneeOf 12 = .ok (.getfield 24, 3) := by decide +kernel
theorem dX0_assigneeOf_15 : decode cX0_assigneeOf 15 = .ok (.iload_n 2, 1) := by decide +kernel
theorem dX0_assigneeOf_16 : decode cX0_assigneeOf 16 = .ok (.iaload, 1) := by decide +kernel
theorem dX0_assigneeOf_17 : decode cX0_assigneeOf 17 = .ok (.iload_n 1, 1) := by decide +kernel
theorem dX0_assigneeOf_18 : decode cX0_assigneeOf 18 = .ok (.if_icmp .ne 5, 3) := by decide +kernel
theorem dX0_assigneeOf_21 : decode cX0_assigneeOf 21 = .ok (.iload_n 2, 1) := by decide +kernel
theorem dX0_assigneeOf_22 : decode cX0_assigneeOf 22 = .ok (.ireturn, 1) := by decide +kernel
theorem dX0_assigneeOf_23 : decode cX0_assigneeOf 23 = .ok (.iinc 2 1, 3) := by decide +kernel
theorem dX0_assigneeOf_26 : decode cX0_assigneeOf 26 = .ok (.goto (-24), 3) := by decide +kernel
theorem dX0_assigneeOf_29 : decode cX0_assigneeOf 29 = .ok (.iconst (-1), 1) := by decide +kernel
theorem dX0_assigneeOf_30 : decode cX0_assigneeOf 30 = .ok (.ireturn, 1) := by decide +kernel
theorem dX0_speedOn_0 : decode cX0_speedOn 0 = .ok (.aload_n 0, 1) := by decide +kernel
theorem dX0_speedOn_1 : decode cX0_speedOn 1 = .ok (.iload_n 1, 1) := by decide +kernel
theorem dX0_speedOn_2 : decode cX0_speedOn 2 = .ok (.invokevirtual 86, 3) := by decide +kernel
theorem dX0_speedOn_5 : decode cX0_speedOn 5 = .ok (.istore_n 2, 1) := by decide +kernel
theorem dX0_speedOn_6 : decode cX0_speedOn 6 = .ok (.aload_n 0, 1) := by decide +kernel
theorem dX0_speedOn_7 : decode cX0_speedOn 7 = .ok (.iload_n 2, 1) := by decide +kernel
theorem dX0_speedOn_8 : decode cX0_speedOn 8 = .ok (.invokevirtual 90, 3) := by decide +kernel
theorem dX0_speedOn_11 : decode cX0_speedOn 11 = .ok (.ifCond .eq 12, 3) := by decide +kernel
theorem dX0_speedOn_14 : decode cX0_speedOn 14 = .ok (.aload_n 0, 1) := by decide +kernel
theorem dX0_speedOn_15 : decode cX0_speedOn 15 = .ok (.getfield 21, 3) := by decide +kernel
theorem dX0_speedOn_18 : decode cX0_speedOn 18 = .ok (.iload_n 2, 1) := by decide +kernel
theorem dX0_speedOn_19 : decode cX0_speedOn 19 = .ok (.iaload, 1) := by decide +kernel
theorem dX0_speedOn_20 : decode cX0_speedOn 20 = .ok (.goto 4, 3) := by decide +kernel
theorem dX0_speedOn_23 : decode cX0_speedOn 23 = .ok (.iconst 0, 1) := by decide +kernel
theorem dX0_speedOn_24 : decode cX0_speedOn 24 = .ok (.ireturn, 1) := by decide +kernel
theorem dX0_canPlan_0 : decode cX0_canPlan 0 = .ok (.aload_n 0, 1) := by decide +kernel
theorem dX0_canPlan_1 : decode cX0_canPlan 1 = .ok (.iload_n 1, 1) := by decide +kernel
theorem dX0_canPlan_2 : decode cX0_canPlan 2 = .ok (.invokevirtual 66, 3) := by decide +kernel
theorem dX0_canPlan_5 : decode cX0_canPlan 5 = .ok (.ifCond .eq 23, 3) := by decide +kernel
theorem dX0_canPlan_8 : decode cX0_canPlan 8 = .ok (.aload_n 0, 1) := by decide +kernel
theorem dX0_canPlan_9 : decode cX0_canPlan 9 = .ok (.iload_n 1, 1) := by decide +kernel
theorem dX0_canPlan_10 : decode cX0_canPlan 10 = .ok (.invokevirtual 120, 3) := by decide +kernel
theorem dX0_canPlan_13 : decode cX0_canPlan 13 = .ok (.ifCond .ne 15, 3) := by decide +kernel
theorem dX0_canPlan_16 : decode cX0_canPlan 16 = .ok (.aload_n 0, 1) := by decide +kernel
theorem dX0_canPlan_17 : decode cX0_canPlan 17 = .ok (.iload_n 1, 1) := by decide +kernel
theorem dX0_canPlan_18 : decode cX0_canPlan 18 = .ok (.invokevirtual 77, 3) := by decide +kernel
theorem dX0_canPlan_21 : decode cX0_canPlan 21 = .ok (.ifCond .ne 7, 3) := by decide +kernel
theorem dX0_canPlan_24 : decode cX0_canPlan 24 = .ok (.iconst 1, 1) := by decide +kernel
theorem dX0_canPlan_25 : decode cX0_canPlan 25 = .ok (.goto 4, 3) := by decide +kernel
theorem dX0_canPlan_28 : decode cX0_canPlan 28 = .ok (.iconst 0, 1) := by decide +kernel
theorem dX0_canPlan_29 : decode cX0_canPlan 29 = .ok (.ireturn, 1) := by decide +kernel
theorem dX0_putIntoPlan_0 : decode cX0_putIntoPlan 0 = .ok (.aload_n 0, 1) := by decide +kernel
theorem dX0_putIntoPlan_1 : decode cX0_putIntoPlan 1 = .ok (.dup, 1) := by decide +kernel
theorem dX0_putIntoPlan_2 : decode cX0_putIntoPlan 2 = .ok (.getfield 44, 3) := by decide +kernel
theorem dX0_putIntoPlan_5 : decode cX0_putIntoPlan 5 = .ok (.iload_n 1, 1) := by decide +kernel
theorem dX0_putIntoPlan_6 : decode cX0_putIntoPlan 6 = .ok (.invokestatic 99, 3) := by decide +kernel
theorem dX0_putIntoPlan_9 : decode cX0_putIntoPlan 9 = .ok (.ior, 1) := by decide +kernel
theorem dX0_putIntoPlan_10 : decode cX0_putIntoPlan 10 = .ok (.putfield 44, 3) := by decide +kernel
theorem dX0_putIntoPlan_13 : decode cX0_putIntoPlan 13 = .ok (.aload_n 0, 1) := by decide +kernel
theorem dX0_putIntoPlan_14 : decode cX0_putIntoPlan 14 = .ok (.invokevirtual 123, 3) := by decide +kernel
theorem dX0_putIntoPlan_17 : decode cX0_putIntoPlan 17 = .ok (.ireturn, 1) := by decide +kernel
theorem dX0_canUnplan_0 : decode cX0_canUnplan 0 = .ok (.aload_n 0, 1) := by decide +kernel
theorem dX0_canUnplan_1 : decode cX0_canUnplan 1 = .ok (.iload_n 1, 1) := by decide +kernel
theorem dX0_canUnplan_2 : decode cX0_canUnplan 2 = .ok (.invokevirtual 120, 3) := by decide +kernel
theorem dX0_canUnplan_5 : decode cX0_canUnplan 5 = .ok (.ifCond .eq 16, 3) := by decide +kernel
theorem dX0_canUnplan_8 : decode cX0_canUnplan 8 = .ok (.aload_n 0, 1) := by decide +kernel
theorem dX0_canUnplan_9 : decode cX0_canUnplan 9 = .ok (.iload_n 1, 1) := by decide +kernel
theorem dX0_canUnplan_10 : decode cX0_canUnplan 10 = .ok (.invokevirtual 86, 3) := by decide +kernel
theorem dX0_canUnplan_13 : decode cX0_canUnplan 13 = .ok (.iconst (-1), 1) := by decide +kernel
theorem dX0_canUnplan_14 : decode cX0_canUnplan 14 = .ok (.if_icmp .ne 7, 3) := by decide +kernel
theorem dX0_canUnplan_17 : decode cX0_canUnplan 17 = .ok (.iconst 1, 1) := by decide +kernel
theorem dX0_canUnplan_18 : decode cX0_canUnplan 18 = .ok (.goto 4, 3) := by decide +kernel
theorem dX0_canUnplan_21 : decode cX0_canUnplan 21 = .ok (.iconst 0, 1) := by decide +kernel
theorem dX0_canUnplan_22 : decode cX0_canUnplan 22 = .ok (.ireturn, 1) := by decide +kernel
theorem dX0_removeFromPlan_0 : decode cX0_removeFromPlan 0 = .ok (.aload_n 0, 1) := by decide +kernel
theorem dX0_removeFromPlan_1 : decode cX0_removeFromPlan 1 = .ok (.dup, 1) := by decide +kernel
theorem dX0_removeFromPlan_2 : decode cX0_removeFromPlan 2 = .ok (.getfield 44, 3) := by decide +kernel
theorem dX0_removeFromPlan_5 : decode cX0_removeFromPlan 5 = .ok (.iload_n 1, 1) := by decide +kernel
theorem dX0_removeFromPlan_6 : decode cX0_removeFromPlan 6 = .ok (.invokestatic 99, 3) := by decide +kernel
theorem dX0_removeFromPlan_9 : decode cX0_removeFromPlan 9 = .ok (.iconst (-1), 1) := by decide +kernel
theorem dX0_removeFromPlan_10 : decode cX0_removeFromPlan 10 = .ok (.ixor, 1) := by decide +kernel
theorem dX0_removeFromPlan_11 : decode cX0_removeFromPlan 11 = .ok (.iand, 1) := by decide +kernel
theorem dX0_removeFromPlan_12 : decode cX0_removeFromPlan 12 = .ok (.putfield 44, 3) := by decide +kernel
theorem dX0_removeFromPlan_15 : decode cX0_removeFromPlan 15 = .ok (.aload_n 0, 1) := by decide +kernel
theorem dX0_removeFromPlan_16 : decode cX0_removeFromPlan 16 = .ok (.invokevirtual 123, 3) := by decide +kernel
theorem dX0_removeFromPlan_19 : decode cX0_removeFromPlan 19 = .ok (.ireturn, 1) := by decide +kernel
theorem dX0_plannedPoints_0 : decode cX0_plannedPoints 0 = .ok (.aload_n 0, 1) := by decide +kernel
theorem dX0_plannedPoints_1 : decode cX0_plannedPoints 1 = .ok (.aload_n 0, 1) := by decide +kernel
theorem dX0_plannedPoints_2 : decode cX0_plannedPoints 2 = .ok (.getfield 9, 3) := by decide +kernel
theorem dX0_plannedPoints_5 : decode cX0_plannedPoints 5 = .ok (.invokevirtual 126, 3) := by decide +kernel
theorem dX0_plannedPoints_8 : decode cX0_plannedPoints 8 = .ok (.ireturn, 1) := by decide +kernel
theorem dX0_plannedRemains_0 : decode cX0_plannedRemains 0 = .ok (.aload_n 0, 1) := by decide +kernel
theorem dX0_plannedRemains_1 : decode cX0_plannedRemains 1 = .ok (.aload_n 0, 1) := by decide +kernel
theorem dX0_plannedRemains_2 : decode cX0_plannedRemains 2 = .ok (.getfield 15, 3) := by decide +kernel
theorem dX0_plannedRemains_5 : decode cX0_plannedRemains 5 = .ok (.invokevirtual 126, 3) := by decide +kernel
theorem dX0_plannedRemains_8 : decode cX0_plannedRemains 8 = .ok (.ireturn, 1) := by decide +kernel
theorem dX0_plannedWork_0 : decode cX0_plannedWork 0 = .ok (.iconst 0, 1) := by decide +kernel
theorem dX0_plannedWork_1 : decode cX0_plannedWork 1 = .ok (.istore_n 1, 1) := by decide +kernel
theorem dX0_plannedWork_2 : decode cX0_plannedWork 2 = .ok (.iconst 0, 1) := by decide +kernel
theorem dX0_plannedWork_3 : decode cX0_plannedWork 3 = .ok (.istore_n 2, 1) := by decide +kernel
theorem dX0_plannedWork_4 : decode cX0_plannedWork 4 = .ok (.iload_n 2, 1) := by decide +kernel
theorem dX0_plannedWork_5 : decode cX0_plannedWork 5 = .ok (.aload_n 0, 1) := by decide +kernel
theorem dX0_plannedWork_6 : decode cX0_plannedWork 6 = .ok (.getfield 9, 3) := by decide +kernel
theorem dX0_plannedWork_9 : decode cX0_plannedWork 9 = .ok (.arraylength, 1) := by decide +kernel
theorem dX0_plannedWork_10 : decode cX0_plannedWork 10 = .ok (.if_icmp .ge 36, 3) := by decide +kernel
theorem dX0_plannedWork_13 : decode cX0_plannedWork 13 = .ok (.aload_n 0, 1) := by decide +kernel
theorem dX0_plannedWork_14 : decode cX0_plannedWork 14 = .ok (.getfield 44, 3) := by decide +kernel
theorem dX0_plannedWork_17 : decode cX0_plannedWork 17 = .ok (.iload_n 2, 1) := by decide +kernel
theorem dX0_plannedWork_18 : decode cX0_plannedWork 18 = .ok (.invokestatic 70, 3) := by decide +kernel
theorem dX0_plannedWork_21 : decode cX0_plannedWork 21 = .ok (.ifCond .eq 19, 3) := by decide +kernel
theorem dX0_plannedWork_24 : decode cX0_plannedWork 24 = .ok (.iload_n 1, 1) := by decide +kernel
theorem dX0_plannedWork_25 : decode cX0_plannedWork 25 = .ok (.aload_n 0, 1) := by decide +kernel
theorem dX0_plannedWork_26 : decode cX0_plannedWork 26 = .ok (.getfield 9, 3) := by decide +kernel
theorem dX0_plannedWork_29 : decode cX0_plannedWork 29 = .ok (.iload_n 2, 1) := by decide +kernel
theorem dX0_plannedWork_30 : decode cX0_plannedWork 30 = .ok (.iaload, 1) := by decide +kernel
theorem dX0_plannedWork_31 : decode cX0_plannedWork 31 = .ok (.aload_n 0, 1) := by decide +kernel
theorem dX0_plannedWork_32 : decode cX0_plannedWork 32 = .ok (.getfield 15, 3) := by decide +kernel
theorem dX0_plannedWork_35 : decode cX0_plannedWork 35 = .ok (.iload_n 2, 1) := by decide +kernel
theorem dX0_plannedWork_36 : decode cX0_plannedWork 36 = .ok (.iaload, 1) := by decide +kernel
theorem dX0_plannedWork_37 : decode cX0_plannedWork 37 = .ok (.isub, 1) := by decide +kernel
theorem dX0_plannedWork_38 : decode cX0_plannedWork 38 = .ok (.iadd, 1) := by decide +kernel
theorem dX0_plannedWork_39 : decode cX0_plannedWork 39 = .ok (.istore_n 1, 1) := by decide +kernel
theorem dX0_plannedWork_40 : decode cX0_plannedWork 40 = .ok (.iinc 2 1, 3) := by decide +kernel
theorem dX0_plannedWork_43 : decode cX0_plannedWork 43 = .ok (.goto (-39), 3) := by decide +kernel
theorem dX0_plannedWork_46 : decode cX0_plannedWork 46 = .ok (.iload_n 1, 1) := by decide +kernel
theorem dX0_plannedWork_47 : decode cX0_plannedWork 47 = .ok (.ireturn, 1) := by decide +kernel
theorem dX0_sumOfPlanned_0 : decode cX0_sumOfPlanned 0 = .ok (.iconst 0, 1) := by decide +kernel
theorem dX0_sumOfPlanned_1 : decode cX0_sumOfPlanned 1 = .ok (.istore_n 2, 1) := by decide +kernel
theorem dX0_sumOfPlanned_2 : decode cX0_sumOfPlanned 2 = .ok (.iconst 0, 1) := by decide +kernel
theorem dX0_sumOfPlanned_3 : decode cX0_sumOfPlanned 3 = .ok (.istore_n 3, 1) := by decide +kernel
theorem dX0_sumOfPlanned_4 : decode cX0_sumOfPlanned 4 = .ok (.iload_n 3, 1) := by decide +kernel
theorem dX0_sumOfPlanned_5 : decode cX0_sumOfPlanned 5 = .ok (.aload_n 1, 1) := by decide +kernel
theorem dX0_sumOfPlanned_6 : decode cX0_sumOfPlanned 6 = .ok (.arraylength, 1) := by decide +kernel
theorem dX0_sumOfPlanned_7 : decode cX0_sumOfPlanned 7 = .ok (.if_icmp .ge 26, 3) := by decide +kernel
theorem dX0_sumOfPlanned_10 : decode cX0_sumOfPlanned 10 = .ok (.aload_n 0, 1) := by decide +kernel
theorem dX0_sumOfPlanned_11 : decode cX0_sumOfPlanned 11 = .ok (.getfield 44, 3) := by decide +kernel
theorem dX0_sumOfPlanned_14 : decode cX0_sumOfPlanned 14 = .ok (.iload_n 3, 1) := by decide +kernel
theorem dX0_sumOfPlanned_15 : decode cX0_sumOfPlanned 15 = .ok (.invokestatic 70, 3) := by decide +kernel
theorem dX0_sumOfPlanned_18 : decode cX0_sumOfPlanned 18 = .ok (.ifCond .eq 9, 3) := by decide +kernel
theorem dX0_sumOfPlanned_21 : decode cX0_sumOfPlanned 21 = .ok (.iload_n 2, 1) := by decide +kernel
theorem dX0_sumOfPlanned_22 : decode cX0_sumOfPlanned 22 = .ok (.aload_n 1, 1) := by decide +kernel
theorem dX0_sumOfPlanned_23 : decode cX0_sumOfPlanned 23 = .ok (.iload_n 3, 1) := by decide +kernel
theorem dX0_sumOfPlanned_24 : decode cX0_sumOfPlanned 24 = .ok (.iaload, 1) := by decide +kernel
theorem dX0_sumOfPlanned_25 : decode cX0_sumOfPlanned 25 = .ok (.iadd, 1) := by decide +kernel
theorem dX0_sumOfPlanned_26 : decode cX0_sumOfPlanned 26 = .ok (.istore_n 2, 1) := by decide +kernel
theorem dX0_sumOfPlanned_27 : decode cX0_sumOfPlanned 27 = .ok (.iinc 3 1, 3) := by decide +kernel
theorem dX0_sumOfPlanned_30 : decode cX0_sumOfPlanned 30 = .ok (.goto (-26), 3) := by decide +kernel
theorem dX0_sumOfPlanned_33 : decode cX0_sumOfPlanned 33 = .ok (.iload_n 2, 1) := by decide +kernel
theorem dX0_sumOfPlanned_34 : decode cX0_sumOfPlanned 34 = .ok (.ireturn, 1) := by decide +kernel
theorem dX0_canStart_0 : decode cX0_canStart 0 = .ok (.iload_n 1, 1) := by decide +kernel
theorem dX0_canStart_1 : decode cX0_canStart 1 = .ok (.invokestatic 130, 3) := by decide +kernel
theorem dX0_canStart_4 : decode cX0_canStart 4 = .ok (.ifCond .eq 23, 3) := by decide +kernel
theorem dX0_canStart_7 : decode cX0_canStart 7 = .ok (.aload_n 0, 1) := by decide +kernel
theorem dX0_canStart_8 : decode cX0_canStart 8 = .ok (.getfield 47, 3) := by decide +kernel
theorem dX0_canStart_11 : decode cX0_canStart 11 = .ok (.ifCond .ne 16, 3) := by decide +kernel
theorem dX0_canStart_14 : decode cX0_canStart 14 = .ok (.aload_n 0, 1) := by decide +kernel
theorem dX0_canStart_15 : decode cX0_canStart 15 = .ok (.getfield 60, 3) := by decide +kernel
theorem dX0_canStart_18 : decode cX0_canStart 18 = .ok (.bipush 9, 2) := by decide +kernel
theorem dX0_canStart_20 : decode cX0_canStart 20 = .ok (.if_icmp .ge 7, 3) := by decide +kernel
theorem dX0_canStart_23 : decode cX0_canStart 23 = .ok (.iconst 1, 1) := by decide +kernel
theorem dX0_canStart_24 : decode cX0_canStart 24 = .ok (.goto 4, 3) := by decide +kernel
theorem dX0_canStart_27 : decode cX0_canStart 27 = .ok (.iconst 0, 1) := by decide +kernel
theorem dX0_canStart_28 : decode cX0_canStart 28 = .ok (.ireturn, 1) := by decide +kernel
theorem dX0_beginSprint_0 : decode cX0_beginSprint 0 = .ok (.aload_n 0, 1) := by decide +kernel
theorem dX0_beginSprint_1 : decode cX0_beginSprint 1 = .ok (.iconst 1, 1) := by decide +kernel
theorem dX0_beginSprint_2 : decode cX0_beginSprint 2 = .ok (.putfield 47, 3) := by decide +kernel
theorem dX0_beginSprint_5 : decode cX0_beginSprint 5 = .ok (.aload_n 0, 1) := by decide +kernel
theorem dX0_beginSprint_6 : decode cX0_beginSprint 6 = .ok (.iload_n 1, 1) := by decide +kernel
theorem dX0_beginSprint_7 : decode cX0_beginSprint 7 = .ok (.putfield 51, 3) := by decide +kernel
theorem dX0_beginSprint_10 : decode cX0_beginSprint 10 = .ok (.aload_n 0, 1) := by decide +kernel
theorem dX0_beginSprint_11 : decode cX0_beginSprint 11 = .ok (.iconst 0, 1) := by decide +kernel
theorem dX0_beginSprint_12 : decode cX0_beginSprint 12 = .ok (.putfield 54, 3) := by decide +kernel
theorem dX0_beginSprint_15 : decode cX0_beginSprint 15 = .ok (.aload_n 0, 1) := by decide +kernel
theorem dX0_beginSprint_16 : decode cX0_beginSprint 16 = .ok (.aload_n 0, 1) := by decide +kernel
theorem dX0_beginSprint_17 : decode cX0_beginSprint 17 = .ok (.invokevirtual 123, 3) := by decide +kernel
theorem dX0_beginSprint_20 : decode cX0_beginSprint 20 = .ok (.putfield 57, 3) := by decide +kernel
theorem dX0_beginSprint_23 : decode cX0_beginSprint 23 = .ok (.aload_n 0, 1) := by decide +kernel
theorem dX0_beginSprint_24 : decode cX0_beginSprint 24 = .ok (.getfield 27, 3) := by decide +kernel
theorem dX0_beginSprint_27 : decode cX0_beginSprint 27 = .ok (.iconst 0, 1) := by decide +kernel
theorem dX0_beginSprint_28 : decode cX0_beginSprint 28 = .ok (.aload_n 0, 1) := by decide +kernel
theorem dX0_beginSprint_29 : decode cX0_beginSprint 29 = .ok (.invokevirtual 133, 3) := by decide +kernel
theorem dX0_beginSprint_32 : decode cX0_beginSprint 32 = .ok (.iastore, 1) := by decide +kernel
theorem dX0_beginSprint_33 : decode cX0_beginSprint 33 = .ok (.aload_n 0, 1) := by decide +kernel
theorem dX0_beginSprint_34 : decode cX0_beginSprint 34 = .ok (.getfield 60, 3) := by decide +kernel
theorem dX0_beginSprint_37 : decode cX0_beginSprint 37 = .ok (.ireturn, 1) := by decide +kernel
theorem dX0_canPassDay_0 : decode cX0_canPassDay 0 = .ok (.aload_n 0, 1) := by decide +kernel
theorem dX0_canPassDay_1 : decode cX0_canPassDay 1 = .ok (.getfield 47, 3) := by decide +kernel
theorem dX0_canPassDay_4 : decode cX0_canPassDay 4 = .ok (.ifCond .eq 18, 3) := by decide +kernel
theorem dX0_canPassDay_7 : decode cX0_canPassDay 7 = .ok (.aload_n 0, 1) := by decide +kernel
theorem dX0_canPassDay_8 : decode cX0_canPassDay 8 = .ok (.getfield 54, 3) := by decide +kernel
theorem dX0_canPassDay_11 : decode cX0_canPassDay 11 = .ok (.aload_n 0, 1) := by decide +kernel
theorem dX0_canPassDay_12 : decode cX0_canPassDay 12 = .ok (.getfield 51, 3) := by decide +kernel
theorem dX0_canPassDay_15 : decode cX0_canPassDay 15 = .ok (.if_icmp .ge 7, 3) := by decide +kernel
theorem dX0_canPassDay_18 : decode cX0_canPassDay 18 = .ok (.iconst 1, 1) := by decide +kernel
theorem dX0_canPassDay_19 : decode cX0_canPassDay 19 = .ok (.goto 4, 3) := by decide +kernel
theorem dX0_canPassDay_22 : decode cX0_canPassDay 22 = .ok (.iconst 0, 1) := by decide +kernel
theorem dX0_canPassDay_23 : decode cX0_canPassDay 23 = .ok (.ireturn, 1) := by decide +kernel
theorem dX0_spendDay_0 : decode cX0_spendDay 0 = .ok (.aload_n 0, 1) := by decide +kernel
theorem dX0_spendDay_1 : decode cX0_spendDay 1 = .ok (.invokevirtual 136, 3) := by decide +kernel
theorem dX0_spendDay_4 : decode cX0_spendDay 4 = .ok (.istore_n 1, 1) := by decide +kernel
theorem dX0_spendDay_5 : decode cX0_spendDay 5 = .ok (.aload_n 0, 1) := by decide +kernel
theorem dX0_spendDay_6 : decode cX0_spendDay 6 = .ok (.dup, 1) := by decide +kernel
theorem dX0_spendDay_7 : decode cX0_spendDay 7 = .ok (.getfield 54, 3) := by decide +kernel
theorem dX0_spendDay_10 : decode cX0_spendDay 10 = .ok (.iconst 1, 1) := by decide +kernel
theorem dX0_spendDay_11 : decode cX0_spendDay 11 = .ok (.iadd, 1) := by decide +kernel
theorem dX0_spendDay_12 : decode cX0_spendDay 12 = .ok (.putfield 54, 3) := by decide +kernel
theorem dX0_spendDay_15 : decode cX0_spendDay 15 = .ok (.aload_n 0, 1) := by decide +kernel
theorem dX0_spendDay_16 : decode cX0_spendDay 16 = .ok (.getfield 54, 3) := by decide +kernel
theorem dX0_spendDay_19 : decode cX0_spendDay 19 = .ok (.ifCond .lt 28, 3) := by decide +kernel
theorem dX0_spendDay_22 : decode cX0_spendDay 22 = .ok (.aload_n 0, 1) := by decide +kernel
theorem dX0_spendDay_23 : decode cX0_spendDay 23 = .ok (.getfield 54, 3) := by decide +kernel
theorem dX0_spendDay_26 : decode cX0_spendDay 26 = .ok (.aload_n 0, 1) := by decide +kernel
theorem dX0_spendDay_27 : decode cX0_spendDay 27 = .ok (.getfield 27, 3) := by decide +kernel
theorem dX0_spendDay_30 : decode cX0_spendDay 30 = .ok (.arraylength, 1) := by decide +kernel
theorem dX0_spendDay_31 : decode cX0_spendDay 31 = .ok (.if_icmp .ge 16, 3) := by decide +kernel
theorem dX0_spendDay_34 : decode cX0_spendDay 34 = .ok (.aload_n 0, 1) := by decide +kernel
theorem dX0_spendDay_35 : decode cX0_spendDay 35 = .ok (.getfield 27, 3) := by decide +kernel
theorem dX0_spendDay_38 : decode cX0_spendDay 38 = .ok (.aload_n 0, 1) := by decide +kernel
theorem dX0_spendDay_39 : decode cX0_spendDay 39 = .ok (.getfield 54, 3) := by decide +kernel
theorem dX0_spendDay_42 : decode cX0_spendDay 42 = .ok (.aload_n 0, 1) := by decide +kernel
theorem dX0_spendDay_43 : decode cX0_spendDay 43 = .ok (.invokevirtual 133, 3) := by decide +kernel
theorem dX0_spendDay_46 : decode cX0_spendDay 46 = .ok (.iastore, 1) := by decide +kernel
theorem dX0_spendDay_47 : decode cX0_spendDay 47 = .ok (.iload_n 1, 1) := by decide +kernel
theorem dX0_spendDay_48 : decode cX0_spendDay 48 = .ok (.ireturn, 1) := by decide +kernel
theorem dX0_work_0 : decode cX0_work 0 = .ok (.aload_n 0, 1) := by decide +kernel
theorem dX0_work_1 : decode cX0_work 1 = .ok (.invokevirtual 107, 3) := by decide +kernel
theorem dX0_work_4 : decode cX0_work 4 = .ok (.istore_n 1, 1) := by decide +kernel
theorem dX0_work_5 : decode cX0_work 5 = .ok (.iconst 0, 1) := by decide +kernel
theorem dX0_work_6 : decode cX0_work 6 = .ok (.istore_n 2, 1) := by decide +kernel
theorem dX0_work_7 : decode cX0_work 7 = .ok (.iconst 0, 1) := by decide +kernel
theorem dX0_work_8 : decode cX0_work 8 = .ok (.istore_n 3, 1) := by decide +kernel
theorem dX0_work_9 : decode cX0_work 9 = .ok (.iload_n 3, 1) := by decide +kernel
theorem dX0_work_10 : decode cX0_work 10 = .ok (.aload_n 0, 1) := by decide +kernel
theorem dX0_work_11 : decode cX0_work 11 = .ok (.getfield 24, 3) := by decide +kernel
theorem dX0_work_14 : decode cX0_work 14 = .ok (.arraylength, 1) := by decide +kernel
theorem dX0_work_15 : decode cX0_work 15 = .ok (.if_icmp .ge 83, 3) := by decide +kernel
theorem dX0_work_18 : decode cX0_work 18 = .ok (.aload_n 0, 1) := by decide +kernel
theorem dX0_work_19 : decode cX0_work 19 = .ok (.getfield 24, 3) := by decide +kernel
theorem dX0_work_22 : decode cX0_work 22 = .ok (.iload_n 3, 1) := by decide +kernel
theorem dX0_work_23 : decode cX0_work 23 = .ok (.iaload, 1) := by decide +kernel
theorem dX0_work_24 : decode cX0_work 24 = .ok (.istore 4, 2) := by decide +kernel
theorem dX0_work_26 : decode cX0_work 26 = .ok (.aload_n 0, 1) := by decide +kernel
theorem dX0_work_27 : decode cX0_work 27 = .ok (.iload 4, 2) := by decide +kernel
theorem dX0_work_29 : decode cX0_work 29 = .ok (.invokevirtual 66, 3) := by decide +kernel
theorem dX0_work_32 : decode cX0_work 32 = .ok (.ifCond .eq 60, 3) := by decide +kernel
theorem dX0_work_35 : decode cX0_work 35 = .ok (.aload_n 0, 1) := by decide +kernel
theorem dX0_work_36 : decode cX0_work 36 = .ok (.getfield 18, 3) := by decide +kernel
theorem dX0_work_39 : decode cX0_work 39 = .ok (.iload 4, 2) := by decide +kernel
theorem dX0_work_41 : decode cX0_work 41 = .ok (.iaload, 1) := by decide +kernel
theorem dX0_work_42 : decode cX0_work 42 = .ok (.iload_n 1, 1) := by decide +kernel
theorem dX0_work_43 : decode cX0_work 43 = .ok (.iand, 1) := by decide +kernel
theorem dX0_work_44 : decode cX0_work 44 = .ok (.ifCond .ne 48, 3) := by decide +kernel
theorem dX0_work_47 : decode cX0_work 47 = .ok (.aload_n 0, 1) := by decide +kernel
theorem dX0_work_48 : decode cX0_work 48 = .ok (.getfield 15, 3) := by decide +kernel
theorem dX0_work_51 : decode cX0_work 51 = .ok (.iload 4, 2) := by decide +kernel
theorem dX0_work_53 : decode cX0_work 53 = .ok (.aload_n 0, 1) := by decide +kernel
theorem dX0_work_54 : decode cX0_work 54 = .ok (.getfield 15, 3) := by decide +kernel
theorem dX0_work_57 : decode cX0_work 57 = .ok (.iload 4, 2) := by decide +kernel
theorem dX0_work_59 : decode cX0_work 59 = .ok (.iaload, 1) := by decide +kernel
theorem dX0_work_60 : decode cX0_work 60 = .ok (.aload_n 0, 1) := by decide +kernel
theorem dX0_work_61 : decode cX0_work 61 = .ok (.getfield 21, 3) := by decide +kernel
theorem dX0_work_64 : decode cX0_work 64 = .ok (.iload_n 3, 1) := by decide +kernel
theorem dX0_work_65 : decode cX0_work 65 = .ok (.iaload, 1) := by decide +kernel
theorem dX0_work_66 : decode cX0_work 66 = .ok (.isub, 1) := by decide +kernel
theorem dX0_work_67 : decode cX0_work 67 = .ok (.iconst 0, 1) := by decide +kernel
theorem dX0_work_68 : decode cX0_work 68 = .ok (.invokestatic 139, 3) := by decide +kernel
theorem dX0_work_71 : decode cX0_work 71 = .ok (.iastore, 1) := by decide +kernel
theorem dX0_work_72 : decode cX0_work 72 = .ok (.aload_n 0, 1) := by decide +kernel
theorem dX0_work_73 : decode cX0_work 73 = .ok (.getfield 15, 3) := by decide +kernel
theorem dX0_work_76 : decode cX0_work 76 = .ok (.iload 4, 2) := by decide +kernel
theorem dX0_work_78 : decode cX0_work 78 = .ok (.iaload, 1) := by decide +kernel
theorem dX0_work_79 : decode cX0_work 79 = .ok (.ifCond .ne 13, 3) := by decide +kernel
theorem dX0_work_82 : decode cX0_work 82 = .ok (.aload_n 0, 1) := by decide +kernel
theorem dX0_work_83 : decode cX0_work 83 = .ok (.getfield 24, 3) := by decide +kernel
theorem dX0_work_86 : decode cX0_work 86 = .ok (.iload_n 3, 1) := by decide +kernel
theorem dX0_work_87 : decode cX0_work 87 = .ok (.iconst (-1), 1) := by decide +kernel
theorem dX0_work_88 : decode cX0_work 88 = .ok (.iastore, 1) := by decide +kernel
theorem dX0_work_89 : decode cX0_work 89 = .ok (.iinc 2 1, 3) := by decide +kernel
theorem dX0_work_92 : decode cX0_work 92 = .ok (.iinc 3 1, 3) := by decide +kernel
theorem dX0_work_95 : decode cX0_work 95 = .ok (.goto (-86), 3) := by decide +kernel
theorem dX0_work_98 : decode cX0_work 98 = .ok (.iload_n 2, 1) := by decide +kernel
theorem dX0_work_99 : decode cX0_work 99 = .ok (.ireturn, 1) := by decide +kernel
theorem dX0_closeSprint_0 : decode cX0_closeSprint 0 = .ok (.aload_n 0, 1) := by decide +kernel
theorem dX0_closeSprint_1 : decode cX0_closeSprint 1 = .ok (.invokevirtual 142, 3) := by decide +kernel
theorem dX0_closeSprint_4 : decode cX0_closeSprint 4 = .ok (.istore_n 1, 1) := by decide +kernel
theorem dX0_closeSprint_5 : decode cX0_closeSprint 5 = .ok (.aload_n 0, 1) := by decide +kernel
theorem dX0_closeSprint_6 : decode cX0_closeSprint 6 = .ok (.getfield 60, 3) := by decide +kernel
theorem dX0_closeSprint_9 : decode cX0_closeSprint 9 = .ok (.ifCond .lt 25, 3) := by decide +kernel
theorem dX0_closeSprint_12 : decode cX0_closeSprint 12 = .ok (.aload_n 0, 1) := by decide +kernel
theorem dX0_closeSprint_13 : decode cX0_closeSprint 13 = .ok (.getfield 60, 3) := by decide +kernel
theorem dX0_closeSprint_16 : decode cX0_closeSprint 16 = .ok (.aload_n 0, 1) := by decide +kernel
theorem dX0_closeSprint_17 : decode cX0_closeSprint 17 = .ok (.getfield 30, 3) := by decide +kernel
theorem dX0_closeSprint_20 : decode cX0_closeSprint 20 = .ok (.arraylength, 1) := by decide +kernel
theorem dX0_closeSprint_21 : decode cX0_closeSprint 21 = .ok (.if_icmp .ge 13, 3) := by decide +kernel
theorem dX0_closeSprint_24 : decode cX0_closeSprint 24 = .ok (.aload_n 0, 1) := by decide +kernel
theorem dX0_closeSprint_25 : decode cX0_closeSprint 25 = .ok (.getfield 30, 3) := by decide +kernel
theorem dX0_closeSprint_28 : decode cX0_closeSprint 28 = .ok (.aload_n 0, 1) := by decide +kernel
theorem dX0_closeSprint_29 : decode cX0_closeSprint 29 = .ok (.getfield 60, 3) := by decide +kernel
theorem dX0_closeSprint_32 : decode cX0_closeSprint 32 = .ok (.iload_n 1, 1) := by decide +kernel
theorem dX0_closeSprint_33 : decode cX0_closeSprint 33 = .ok (.iastore, 1) := by decide +kernel
theorem dX0_closeSprint_34 : decode cX0_closeSprint 34 = .ok (.aload_n 0, 1) := by decide +kernel
theorem dX0_closeSprint_35 : decode cX0_closeSprint 35 = .ok (.dup, 1) := by decide +kernel
theorem dX0_closeSprint_36 : decode cX0_closeSprint 36 = .ok (.getfield 60, 3) := by decide +kernel
theorem dX0_closeSprint_39 : decode cX0_closeSprint 39 = .ok (.iconst 1, 1) := by decide +kernel
theorem dX0_closeSprint_40 : decode cX0_closeSprint 40 = .ok (.iadd, 1) := by decide +kernel
theorem dX0_closeSprint_41 : decode cX0_closeSprint 41 = .ok (.putfield 60, 3) := by decide +kernel
theorem dX0_closeSprint_44 : decode cX0_closeSprint 44 = .ok (.aload_n 0, 1) := by decide +kernel
theorem dX0_closeSprint_45 : decode cX0_closeSprint 45 = .ok (.iconst 0, 1) := by decide +kernel
theorem dX0_closeSprint_46 : decode cX0_closeSprint 46 = .ok (.putfield 47, 3) := by decide +kernel
theorem dX0_closeSprint_49 : decode cX0_closeSprint 49 = .ok (.aload_n 0, 1) := by decide +kernel
theorem dX0_closeSprint_50 : decode cX0_closeSprint 50 = .ok (.iconst 0, 1) := by decide +kernel
theorem dX0_closeSprint_51 : decode cX0_closeSprint 51 = .ok (.putfield 44, 3) := by decide +kernel
theorem dX0_closeSprint_54 : decode cX0_closeSprint 54 = .ok (.iconst 0, 1) := by decide +kernel
theorem dX0_closeSprint_55 : decode cX0_closeSprint 55 = .ok (.istore_n 2, 1) := by decide +kernel
theorem dX0_closeSprint_56 : decode cX0_closeSprint 56 = .ok (.iload_n 2, 1) := by decide +kernel
theorem dX0_closeSprint_57 : decode cX0_closeSprint 57 = .ok (.aload_n 0, 1) := by decide +kernel
theorem dX0_closeSprint_58 : decode cX0_closeSprint 58 = .ok (.getfield 24, 3) := by decide +kernel
theorem dX0_closeSprint_61 : decode cX0_closeSprint 61 = .ok (.arraylength, 1) := by decide +kernel
theorem dX0_closeSprint_62 : decode cX0_closeSprint 62 = .ok (.if_icmp .ge 16, 3) := by decide +kernel
theorem dX0_closeSprint_65 : decode cX0_closeSprint 65 = .ok (.aload_n 0, 1) := by decide +kernel
theorem dX0_closeSprint_66 : decode cX0_closeSprint 66 = .ok (.getfield 24, 3) := by decide +kernel
theorem dX0_closeSprint_69 : decode cX0_closeSprint 69 = .ok (.iload_n 2, 1) := by decide +kernel
theorem dX0_closeSprint_70 : decode cX0_closeSprint 70 = .ok (.iconst (-1), 1) := by decide +kernel
theorem dX0_closeSprint_71 : decode cX0_closeSprint 71 = .ok (.iastore, 1) := by decide +kernel
theorem dX0_closeSprint_72 : decode cX0_closeSprint 72 = .ok (.iinc 2 1, 3) := by decide +kernel
theorem dX0_closeSprint_75 : decode cX0_closeSprint 75 = .ok (.goto (-19), 3) := by decide +kernel
theorem dX0_closeSprint_78 : decode cX0_closeSprint 78 = .ok (.iload_n 1, 1) := by decide +kernel
theorem dX0_closeSprint_79 : decode cX0_closeSprint 79 = .ok (.ireturn, 1) := by decide +kernel
theorem dX0_finishedPoints_0 : decode cX0_finishedPoints 0 = .ok (.iconst 0, 1) := by decide +kernel
theorem dX0_finishedPoints_1 : decode cX0_finishedPoints 1 = .ok (.istore_n 1, 1) := by decide +kernel
theorem dX0_finishedPoints_2 : decode cX0_finishedPoints 2 = .ok (.iconst 0, 1) := by decide +kernel
theorem dX0_finishedPoints_3 : decode cX0_finishedPoints 3 = .ok (.istore_n 2, 1) := by decide +kernel
theorem dX0_finishedPoints_4 : decode cX0_finishedPoints 4 = .ok (.iload_n 2, 1) := by decide +kernel
theorem dX0_finishedPoints_5 : decode cX0_finishedPoints 5 = .ok (.aload_n 0, 1) := by decide +kernel
theorem dX0_finishedPoints_6 : decode cX0_finishedPoints 6 = .ok (.getfield 9, 3) := by decide +kernel
theorem dX0_finishedPoints_9 : decode cX0_finishedPoints 9 = .ok (.arraylength, 1) := by decide +kernel
theorem dX0_finishedPoints_10 : decode cX0_finishedPoints 10 = .ok (.if_icmp .ge 38, 3) := by decide +kernel
theorem dX0_finishedPoints_13 : decode cX0_finishedPoints 13 = .ok (.aload_n 0, 1) := by decide +kernel
theorem dX0_finishedPoints_14 : decode cX0_finishedPoints 14 = .ok (.getfield 44, 3) := by decide +kernel
theorem dX0_finishedPoints_17 : decode cX0_finishedPoints 17 = .ok (.iload_n 2, 1) := by decide +kernel
theorem dX0_finishedPoints_18 : decode cX0_finishedPoints 18 = .ok (.invokestatic 70, 3) := by decide +kernel
theorem dX0_finishedPoints_21 : decode cX0_finishedPoints 21 = .ok (.ifCond .eq 21, 3) := by decide +kernel
theorem dX0_finishedPoints_24 : decode cX0_finishedPoints 24 = .ok (.aload_n 0, 1) := by decide +kernel
theorem dX0_finishedPoints_25 : decode cX0_finishedPoints 25 = .ok (.getfield 15, 3) := by decide +kernel
theorem dX0_finishedPoints_28 : decode cX0_finishedPoints 28 = .ok (.iload_n 2, 1) := by decide +kernel
theorem dX0_finishedPoints_29 : decode cX0_finishedPoints 29 = .ok (.iaload, 1) := by decide +kernel
theorem dX0_finishedPoints_30 : decode cX0_finishedPoints 30 = .ok (.ifCond .ne 12, 3) := by decide +kernel
theorem dX0_finishedPoints_33 : decode cX0_finishedPoints 33 = .ok (.iload_n 1, 1) := by decide +kernel
theorem dX0_finishedPoints_34 : decode cX0_finishedPoints 34 = .ok (.aload_n 0, 1) := by decide +kernel
theorem dX0_finishedPoints_35 : decode cX0_finishedPoints 35 = .ok (.getfield 9, 3) := by decide +kernel
theorem dX0_finishedPoints_38 : decode cX0_finishedPoints 38 = .ok (.iload_n 2, 1) := by decide +kernel
theorem dX0_finishedPoints_39 : decode cX0_finishedPoints 39 = .ok (.iaload, 1) := by decide +kernel
theorem dX0_finishedPoints_40 : decode cX0_finishedPoints 40 = .ok (.iadd, 1) := by decide +kernel
theorem dX0_finishedPoints_41 : decode cX0_finishedPoints 41 = .ok (.istore_n 1, 1) := by decide +kernel
theorem dX0_finishedPoints_42 : decode cX0_finishedPoints 42 = .ok (.iinc 2 1, 3) := by decide +kernel
theorem dX0_finishedPoints_45 : decode cX0_finishedPoints 45 = .ok (.goto (-41), 3) := by decide +kernel
theorem dX0_finishedPoints_48 : decode cX0_finishedPoints 48 = .ok (.iload_n 1, 1) := by decide +kernel
theorem dX0_finishedPoints_49 : decode cX0_finishedPoints 49 = .ok (.ireturn, 1) := by decide +kernel
theorem dX0_hasRecorded_0 : decode cX0_hasRecorded 0 = .ok (.aload_n 0, 1) := by decide +kernel
theorem dX0_hasRecorded_1 : decode cX0_hasRecorded 1 = .ok (.getfield 47, 3) := by decide +kernel
theorem dX0_hasRecorded_4 : decode cX0_hasRecorded 4 = .ok (.ifCond .eq 28, 3) := by decide +kernel
theorem dX0_hasRecorded_7 : decode cX0_hasRecorded 7 = .ok (.iload_n 1, 1) := by decide +kernel
theorem dX0_hasRecorded_8 : decode cX0_hasRecorded 8 = .ok (.ifCond .lt 24, 3) := by decide +kernel
theorem dX0_hasRecorded_11 : decode cX0_hasRecorded 11 = .ok (.iload_n 1, 1) := by decide +kernel
theorem dX0_hasRecorded_12 : decode cX0_hasRecorded 12 = .ok (.aload_n 0, 1) := by decide +kernel
theorem dX0_hasRecorded_13 : decode cX0_hasRecorded 13 = .ok (.getfield 54, 3) := by decide +kernel
theorem dX0_hasRecorded_16 : decode cX0_hasRecorded 16 = .ok (.if_icmp .gt 16, 3) := by decide +kernel
theorem dX0_hasRecorded_19 : decode cX0_hasRecorded 19 = .ok (.iload_n 1, 1) := by decide +kernel
theorem dX0_hasRecorded_20 : decode cX0_hasRecorded 20 = .ok (.aload_n 0, 1) := by decide +kernel
theorem dX0_hasRecorded_21 : decode cX0_hasRecorded 21 = .ok (.getfield 27, 3) := by decide +kernel
theorem dX0_hasRecorded_24 : decode cX0_hasRecorded 24 = .ok (.arraylength, 1) := by decide +kernel
theorem dX0_hasRecorded_25 : decode cX0_hasRecorded 25 = .ok (.if_icmp .ge 7, 3) := by decide +kernel
theorem dX0_hasRecorded_28 : decode cX0_hasRecorded 28 = .ok (.iconst 1, 1) := by decide +kernel
theorem dX0_hasRecorded_29 : decode cX0_hasRecorded 29 = .ok (.goto 4, 3) := by decide +kernel
theorem dX0_hasRecorded_32 : decode cX0_hasRecorded 32 = .ok (.iconst 0, 1) := by decide +kernel
theorem dX0_hasRecorded_33 : decode cX0_hasRecorded 33 = .ok (.ireturn, 1) := by decide +kernel
theorem dX0_hasDay_0 : decode cX0_hasDay 0 = .ok (.aload_n 0, 1) := by decide +kernel
theorem dX0_hasDay_1 : decode cX0_hasDay 1 = .ok (.getfield 47, 3) := by decide +kernel
theorem dX0_hasDay_4 : decode cX0_hasDay 4 = .ok (.ifCond .eq 26, 3) := by decide +kernel
theorem dX0_hasDay_7 : decode cX0_hasDay 7 = .ok (.aload_n 0, 1) := by decide +kernel
theorem dX0_hasDay_8 : decode cX0_hasDay 8 = .ok (.getfield 51, 3) := by decide +kernel
theorem dX0_hasDay_11 : decode cX0_hasDay 11 = .ok (.ifCond .le 19, 3) := by decide +kernel
theorem dX0_hasDay_14 : decode cX0_hasDay 14 = .ok (.iload_n 1, 1) := by decide +kernel
theorem dX0_hasDay_15 : decode cX0_hasDay 15 = .ok (.ifCond .lt 15, 3) := by decide +kernel
theorem dX0_hasDay_18 : decode cX0_hasDay 18 = .ok (.iload_n 1, 1) := by decide +kernel
theorem dX0_hasDay_19 : decode cX0_hasDay 19 = .ok (.aload_n 0, 1) := by decide +kernel
theorem dX0_hasDay_20 : decode cX0_hasDay 20 = .ok (.getfield 51, 3) := by decide +kernel
theorem dX0_hasDay_23 : decode cX0_hasDay 23 = .ok (.if_icmp .gt 7, 3) := by decide +kernel
theorem dX0_hasDay_26 : decode cX0_hasDay 26 = .ok (.iconst 1, 1) := by decide +kernel
theorem dX0_hasDay_27 : decode cX0_hasDay 27 = .ok (.goto 4, 3) := by decide +kernel
theorem dX0_hasDay_30 : decode cX0_hasDay 30 = .ok (.iconst 0, 1) := by decide +kernel
theorem dX0_hasDay_31 : decode cX0_hasDay 31 = .ok (.ireturn, 1) := by decide +kernel
theorem dX0_hasEnded_0 : decode cX0_hasEnded 0 = .ok (.iload_n 1, 1) := by decide +kernel
theorem dX0_hasEnded_1 : decode cX0_hasEnded 1 = .ok (.ifCond .lt 24, 3) := by decide +kernel
theorem dX0_hasEnded_4 : decode cX0_hasEnded 4 = .ok (.iload_n 1, 1) := by decide +kernel
theorem dX0_hasEnded_5 : decode cX0_hasEnded 5 = .ok (.aload_n 0, 1) := by decide +kernel
theorem dX0_hasEnded_6 : decode cX0_hasEnded 6 = .ok (.getfield 60, 3) := by decide +kernel
theorem dX0_hasEnded_9 : decode cX0_hasEnded 9 = .ok (.if_icmp .ge 16, 3) := by decide +kernel
theorem dX0_hasEnded_12 : decode cX0_hasEnded 12 = .ok (.iload_n 1, 1) := by decide +kernel
theorem dX0_hasEnded_13 : decode cX0_hasEnded 13 = .ok (.aload_n 0, 1) := by decide +kernel
theorem dX0_hasEnded_14 : decode cX0_hasEnded 14 = .ok (.getfield 30, 3) := by decide +kernel
theorem dX0_hasEnded_17 : decode cX0_hasEnded 17 = .ok (.arraylength, 1) := by decide +kernel
theorem dX0_hasEnded_18 : decode cX0_hasEnded 18 = .ok (.if_icmp .ge 7, 3) := by decide +kernel
theorem dX0_hasEnded_21 : decode cX0_hasEnded 21 = .ok (.iconst 1, 1) := by decide +kernel
theorem dX0_hasEnded_22 : decode cX0_hasEnded 22 = .ok (.goto 4, 3) := by decide +kernel
theorem dX0_hasEnded_25 : decode cX0_hasEnded 25 = .ok (.iconst 0, 1) := by decide +kernel
theorem dX0_hasEnded_26 : decode cX0_hasEnded 26 = .ok (.ireturn, 1) := by decide +kernel
theorem dX0_velocitySum_0 : decode cX0_velocitySum 0 = .ok (.iconst 0, 1) := by decide +kernel
theorem dX0_velocitySum_1 : decode cX0_velocitySum 1 = .ok (.istore_n 1, 1) := by decide +kernel
theorem dX0_velocitySum_2 : decode cX0_velocitySum 2 = .ok (.iconst 0, 1) := by decide +kernel
theorem dX0_velocitySum_3 : decode cX0_velocitySum 3 = .ok (.istore_n 2, 1) := by decide +kernel
theorem dX0_velocitySum_4 : decode cX0_velocitySum 4 = .ok (.iload_n 2, 1) := by decide +kernel
theorem dX0_velocitySum_5 : decode cX0_velocitySum 5 = .ok (.aload_n 0, 1) := by decide +kernel
theorem dX0_velocitySum_6 : decode cX0_velocitySum 6 = .ok (.getfield 60, 3) := by decide +kernel
theorem dX0_velocitySum_9 : decode cX0_velocitySum 9 = .ok (.if_icmp .ge 27, 3) := by decide +kernel
theorem dX0_velocitySum_12 : decode cX0_velocitySum 12 = .ok (.iload_n 2, 1) := by decide +kernel
theorem dX0_velocitySum_13 : decode cX0_velocitySum 13 = .ok (.aload_n 0, 1) := by decide +kernel
theorem dX0_velocitySum_14 : decode cX0_velocitySum 14 = .ok (.getfield 30, 3) := by decide +kernel
theorem dX0_velocitySum_17 : decode cX0_velocitySum 17 = .ok (.arraylength, 1) := by decide +kernel
theorem dX0_velocitySum_18 : decode cX0_velocitySum 18 = .ok (.if_icmp .ge 18, 3) := by decide +kernel
theorem dX0_velocitySum_21 : decode cX0_velocitySum 21 = .ok (.iload_n 1, 1) := by decide +kernel
theorem dX0_velocitySum_22 : decode cX0_velocitySum 22 = .ok (.aload_n 0, 1) := by decide +kernel
theorem dX0_velocitySum_23 : decode cX0_velocitySum 23 = .ok (.getfield 30, 3) := by decide +kernel
theorem dX0_velocitySum_26 : decode cX0_velocitySum 26 = .ok (.iload_n 2, 1) := by decide +kernel
theorem dX0_velocitySum_27 : decode cX0_velocitySum 27 = .ok (.iaload, 1) := by decide +kernel
theorem dX0_velocitySum_28 : decode cX0_velocitySum 28 = .ok (.iadd, 1) := by decide +kernel
theorem dX0_velocitySum_29 : decode cX0_velocitySum 29 = .ok (.istore_n 1, 1) := by decide +kernel
theorem dX0_velocitySum_30 : decode cX0_velocitySum 30 = .ok (.iinc 2 1, 3) := by decide +kernel
theorem dX0_velocitySum_33 : decode cX0_velocitySum 33 = .ok (.goto (-29), 3) := by decide +kernel
theorem dX0_velocitySum_36 : decode cX0_velocitySum 36 = .ok (.iload_n 1, 1) := by decide +kernel
theorem dX0_velocitySum_37 : decode cX0_velocitySum 37 = .ok (.ireturn, 1) := by decide +kernel
