theorem dX4_init_0 : decode cX4_init 0 = .ok (.aload_n 0, 1) := by decide +kernel
theorem dX4_init_1 : decode cX4_init 1 = .ok (.invokespecial 1, 3) := by decide +kernel
theorem dX4_init_4 : decode cX4_init 4 = .ok (.aload_n 0, 1) := by decide +kernel
theorem dX4_init_5 : decode cX4_init 5 = .ok (.bipush 115, 2) := by decide +kernel
theorem dX4_init_7 : decode cX4_init 7 = .ok (.newarray .int, 2) := by decide +kernel
theorem dX4_init_9 : decode cX4_init 9 = .ok (.putfield 7, 3) := by decide +kernel
theorem dX4_init_12 : decode cX4_init 12 = .ok (.aload_n 0, 1) := by decide +kernel
theorem dX4_init_13 : decode cX4_init 13 = .ok (.sipush 920, 3) := by decide +kernel
theorem dX4_init_16 : decode cX4_init 16 = .ok (.newarray .int, 2) := by decide +kernel
theorem dX4_init_18 : decode cX4_init 18 = .ok (.putfield 13, 3) := by decide +kernel
theorem dX4_init_21 : decode cX4_init 21 = .ok (.aload_n 0, 1) := by decide +kernel
theorem dX4_init_22 : decode cX4_init 22 = .ok (.bipush 115, 2) := by decide +kernel
theorem dX4_init_24 : decode cX4_init 24 = .ok (.newarray .int, 2) := by decide +kernel
theorem dX4_init_26 : decode cX4_init 26 = .ok (.putfield 16, 3) := by decide +kernel
theorem dX4_init_29 : decode cX4_init 29 = .ok (.aload_n 0, 1) := by decide +kernel
theorem dX4_init_30 : decode cX4_init 30 = .ok (.bipush 115, 2) := by decide +kernel
theorem dX4_init_32 : decode cX4_init 32 = .ok (.newarray .int, 2) := by decide +kernel
theorem dX4_init_34 : decode cX4_init 34 = .ok (.putfield 19, 3) := by decide +kernel
theorem dX4_init_37 : decode cX4_init 37 = .ok (.aload_n 0, 1) := by decide +kernel
theorem dX4_init_38 : decode cX4_init 38 = .ok (.bipush 60, 2) := by decide +kernel
theorem dX4_init_40 : decode cX4_init 40 = .ok (.newarray .int, 2) := by decide +kernel
theorem dX4_init_42 : decode cX4_init 42 = .ok (.putfield 22, 3) := by decide +kernel
theorem dX4_init_45 : decode cX4_init 45 = .ok (.aload_n 0, 1) := by decide +kernel
theorem dX4_init_46 : decode cX4_init 46 = .ok (.iconst (-1), 1) := by decide +kernel
theorem dX4_init_47 : decode cX4_init 47 = .ok (.putfield 25, 3) := by decide +kernel
theorem dX4_init_50 : decode cX4_init 50 = .ok (.aload_n 0, 1) := by decide +kernel
theorem dX4_init_51 : decode cX4_init 51 = .ok (.iconst (-1), 1) := by decide +kernel
theorem dX4_init_52 : decode cX4_init 52 = .ok (.putfield 29, 3) := by decide +kernel
theorem dX4_init_55 : decode cX4_init 55 = .ok (.aload_n 0, 1) := by decide +kernel
theorem dX4_init_56 : decode cX4_init 56 = .ok (.bipush 60, 2) := by decide +kernel
theorem dX4_init_58 : decode cX4_init 58 = .ok (.newarray .char, 2) := by decide +kernel
theorem dX4_init_60 : decode cX4_init 60 = .ok (.putfield 32, 3) := by decide +kernel
theorem dX4_init_63 : decode cX4_init 63 = .ok (.aload_n 0, 1) := by decide +kernel
theorem dX4_init_64 : decode cX4_init 64 = .ok (.bipush 16, 2) := by decide +kernel
theorem dX4_init_66 : decode cX4_init 66 = .ok (.newarray .int, 2) := by decide +kernel
theorem dX4_init_68 : decode cX4_init 68 = .ok (.putfield 36, 3) := by decide +kernel
theorem dX4_init_71 : decode cX4_init 71 = .ok (.aload_n 0, 1) := by decide +kernel
theorem dX4_init_72 : decode cX4_init 72 = .ok (.bipush 16, 2) := by decide +kernel
theorem dX4_init_74 : decode cX4_init 74 = .ok (.newarray .int, 2) := by decide +kernel
theorem dX4_init_76 : decode cX4_init 76 = .ok (.putfield 39, 3) := by decide +kernel
theorem dX4_init_79 : decode cX4_init 79 = .ok (.aload_n 0, 1) := by decide +kernel
theorem dX4_init_80 : decode cX4_init 80 = .ok (.bipush 124, 2) := by decide +kernel
theorem dX4_init_82 : decode cX4_init 82 = .ok (.newarray .int, 2) := by decide +kernel
theorem dX4_init_84 : decode cX4_init 84 = .ok (.putfield 42, 3) := by decide +kernel
theorem dX4_init_87 : decode cX4_init 87 = .ok (.return_, 1) := by decide +kernel
theorem dX4_thrown_0 : decode cX4_thrown 0 = .ok (.aload_n 0, 1) := by decide +kernel
theorem dX4_thrown_1 : decode cX4_thrown 1 = .ok (.getfield 45, 3) := by decide +kernel
theorem dX4_thrown_4 : decode cX4_thrown 4 = .ok (.ireturn, 1) := by decide +kernel
theorem dX4_fails_0 : decode cX4_fails 0 = .ok (.aload_n 0, 1) := by decide +kernel
theorem dX4_fails_1 : decode cX4_fails 1 = .ok (.iload_n 1, 1) := by decide +kernel
theorem dX4_fails_2 : decode cX4_fails 2 = .ok (.putfield 45, 3) := by decide +kernel
theorem dX4_fails_5 : decode cX4_fails 5 = .ok (.iload_n 1, 1) := by decide +kernel
theorem dX4_fails_6 : decode cX4_fails 6 = .ok (.ifCond .le 7, 3) := by decide +kernel
theorem dX4_fails_9 : decode cX4_fails 9 = .ok (.iconst 1, 1) := by decide +kernel
theorem dX4_fails_10 : decode cX4_fails 10 = .ok (.goto 4, 3) := by decide +kernel
theorem dX4_fails_13 : decode cX4_fails 13 = .ok (.iconst 0, 1) := by decide +kernel
theorem dX4_fails_14 : decode cX4_fails 14 = .ok (.ireturn, 1) := by decide +kernel
theorem dX4_in_0 : decode cX4_in 0 = .ok (.iload_n 0, 1) := by decide +kernel
theorem dX4_in_1 : decode cX4_in 1 = .ok (.iload_n 1, 1) := by decide +kernel
theorem dX4_in_2 : decode cX4_in 2 = .ok (.if_icmp .lt 12, 3) := by decide +kernel
theorem dX4_in_5 : decode cX4_in 5 = .ok (.iload_n 0, 1) := by decide +kernel
theorem dX4_in_6 : decode cX4_in 6 = .ok (.iload_n 2, 1) := by decide +kernel
theorem dX4_in_7 : decode cX4_in 7 = .ok (.if_icmp .gt 7, 3) := by decide +kernel
theorem dX4_in_10 : decode cX4_in 10 = .ok (.iconst 1, 1) := by decide +kernel
theorem dX4_in_11 : decode cX4_in 11 = .ok (.goto 4, 3) := by decide +kernel
theorem dX4_in_14 : decode cX4_in 14 = .ok (.iconst 0, 1) := by decide +kernel
theorem dX4_in_15 : decode cX4_in 15 = .ok (.ireturn, 1) := by decide +kernel
theorem dX4_least_0 : decode cX4_least 0 = .ok (.iload_n 0, 1) := by decide +kernel
theorem dX4_least_1 : decode cX4_least 1 = .ok (.iload_n 1, 1) := by decide +kernel
theorem dX4_least_2 : decode cX4_least 2 = .ok (.if_icmp .ge 7, 3) := by decide +kernel
theorem dX4_least_5 : decode cX4_least 5 = .ok (.iload_n 0, 1) := by decide +kernel
theorem dX4_least_6 : decode cX4_least 6 = .ok (.goto 4, 3) := by decide +kernel
theorem dX4_least_9 : decode cX4_least 9 = .ok (.iload_n 1, 1) := by decide +kernel
theorem dX4_least_10 : decode cX4_least 10 = .ok (.ireturn, 1) := by decide +kernel
theorem dX4_most_0 : decode cX4_most 0 = .ok (.iload_n 0, 1) := by decide +kernel
theorem dX4_most_1 : decode cX4_most 1 = .ok (.iload_n 1, 1) := by decide +kernel
theorem dX4_most_2 : decode cX4_most 2 = .ok (.if_icmp .le 7, 3) := by decide +kernel
theorem dX4_most_5 : decode cX4_most 5 = .ok (.iload_n 0, 1) := by decide +kernel
theorem dX4_most_6 : decode cX4_most 6 = .ok (.goto 4, 3) := by decide +kernel
theorem dX4_most_9 : decode cX4_most 9 = .ok (.iload_n 1, 1) := by decide +kernel
theorem dX4_most_10 : decode cX4_most 10 = .ok (.ireturn, 1) := by decide +kernel
theorem dX4_copies_0 : decode cX4_copies 0 = .ok (.iconst 0, 1) := by decide +kernel
theorem dX4_copies_1 : decode cX4_copies 1 = .ok (.istore 4, 2) := by decide +kernel
theorem dX4_copies_3 : decode cX4_copies 3 = .ok (.iload 4, 2) := by decide +kernel
theorem dX4_copies_5 : decode cX4_copies 5 = .ok (.bipush 115, 2) := by decide +kernel
theorem dX4_copies_7 : decode cX4_copies 7 = .ok (.if_icmp .ge 21, 3) := by decide +kernel
theorem dX4_copies_10 : decode cX4_copies 10 = .ok (.aload_n 2, 1) := by decide +kernel
theorem dX4_copies_11 : decode cX4_copies 11 = .ok (.iload_n 3, 1) := by decide +kernel
theorem dX4_copies_12 : decode cX4_copies 12 = .ok (.iload 4, 2) := by decide +kernel
theorem dX4_copies_14 : decode cX4_copies 14 = .ok (.iadd, 1) := by decide +kernel
theorem dX4_copies_15 : decode cX4_copies 15 = .ok (.aload_n 0, 1) := by decide +kernel
theorem dX4_copies_16 : decode cX4_copies 16 = .ok (.iload_n 1, 1) := by decide +kernel
theorem dX4_copies_17 : decode cX4_copies 17 = .ok (.iload 4, 2) := by decide +kernel
theorem dX4_copies_19 : decode cX4_copies 19 = .ok (.iadd, 1) := by decide +kernel
theorem dX4_copies_20 : decode cX4_copies 20 = .ok (.iaload, 1) := by decide +kernel
theorem dX4_copies_21 : decode cX4_copies 21 = .ok (.iastore, 1) := by decide +kernel
theorem dX4_copies_22 : decode cX4_copies 22 = .ok (.iinc 4 1, 3) := by decide +kernel
theorem dX4_copies_25 : decode cX4_copies 25 = .ok (.goto (-22), 3) := by decide +kernel
theorem dX4_copies_28 : decode cX4_copies 28 = .ok (.return_, 1) := by decide +kernel
theorem dX4_keeps_0 : decode cX4_keeps 0 = .ok (.aload_n 0, 1) := by decide +kernel
theorem dX4_keeps_1 : decode cX4_keeps 1 = .ok (.iconst 0, 1) := by decide +kernel
theorem dX4_keeps_2 : decode cX4_keeps 2 = .ok (.putfield 45, 3) := by decide +kernel
theorem dX4_keeps_5 : decode cX4_keeps 5 = .ok (.aload_n 0, 1) := by decide +kernel
theorem dX4_keeps_6 : decode cX4_keeps 6 = .ok (.getfield 48, 3) := by decide +kernel
theorem dX4_keeps_9 : decode cX4_keeps 9 = .ok (.ifCond .eq 4, 3) := by decide +kernel
theorem dX4_keeps_12 : decode cX4_keeps 12 = .ok (.return_, 1) := by decide +kernel
theorem dX4_keeps_13 : decode cX4_keeps 13 = .ok (.aload_n 0, 1) := by decide +kernel
theorem dX4_keeps_14 : decode cX4_keeps 14 = .ok (.getfield 52, 3) := by decide +kernel
theorem dX4_keeps_17 : decode cX4_keeps 17 = .ok (.bipush 8, 2) := by decide +kernel
theorem dX4_keeps_19 : decode cX4_keeps 19 = .ok (.if_icmp .ne 43, 3) := by decide +kernel
theorem dX4_keeps_22 : decode cX4_keeps 22 = .ok (.iconst 0, 1) := by decide +kernel
theorem dX4_keeps_23 : decode cX4_keeps 23 = .ok (.istore_n 2, 1) := by decide +kernel
theorem dX4_keeps_24 : decode cX4_keeps 24 = .ok (.iload_n 2, 1) := by decide +kernel
theorem dX4_keeps_25 : decode cX4_keeps 25 = .ok (.sipush 805, 3) := by decide +kernel
theorem dX4_keeps_28 : decode cX4_keeps 28 = .ok (.if_icmp .ge 24, 3) := by decide +kernel
theorem dX4_keeps_31 : decode cX4_keeps 31 = .ok (.aload_n 0, 1) := by decide +kernel
theorem dX4_keeps_32 : decode cX4_keeps 32 = .ok (.getfield 13, 3) := by decide +kernel
theorem dX4_keeps_35 : decode cX4_keeps 35 = .ok (.iload_n 2, 1) := by decide +kernel
theorem dX4_keeps_36 : decode cX4_keeps 36 = .ok (.aload_n 0, 1) := by decide +kernel
theorem dX4_keeps_37 : decode cX4_keeps 37 = .ok (.getfield 13, 3) := by decide +kernel
theorem dX4_keeps_40 : decode cX4_keeps 40 = .ok (.iload_n 2, 1) := by decide +kernel
theorem dX4_keeps_41 : decode cX4_keeps 41 = .ok (.bipush 115, 2) := by decide +kernel
theorem dX4_keeps_43 : decode cX4_keeps 43 = .ok (.iadd, 1) := by decide +kernel
theorem dX4_keeps_44 : decode cX4_keeps 44 = .ok (.iaload, 1) := by decide +kernel
theorem dX4_keeps_45 : decode cX4_keeps 45 = .ok (.iastore, 1) := by decide +kernel
theorem dX4_keeps_46 : decode cX4_keeps 46 = .ok (.iinc 2 1, 3) := by decide +kernel
theorem dX4_keeps_49 : decode cX4_keeps 49 = .ok (.goto (-25), 3) := by decide +kernel
theorem dX4_keeps_52 : decode cX4_keeps 52 = .ok (.aload_n 0, 1) := by decide +kernel
theorem dX4_keeps_53 : decode cX4_keeps 53 = .ok (.dup, 1) := by decide +kernel
theorem dX4_keeps_54 : decode cX4_keeps 54 = .ok (.getfield 52, 3) := by decide +kernel
theorem dX4_keeps_57 : decode cX4_keeps 57 = .ok (.iconst 1, 1) := by decide +kernel
theorem dX4_keeps_58 : decode cX4_keeps 58 = .ok (.isub, 1) := by decide +kernel
theorem dX4_keeps_59 : decode cX4_keeps 59 = .ok (.putfield 52, 3) := by decide +kernel
theorem dX4_keeps_62 : decode cX4_keeps 62 = .ok (.aload_n 1, 1) := by decide +kernel
theorem dX4_keeps_63 : decode cX4_keeps 63 = .ok (.iconst 0, 1) := by decide +kernel
theorem dX4_keeps_64 : decode cX4_keeps 64 = .ok (.aload_n 0, 1) := by decide +kernel
theorem dX4_keeps_65 : decode cX4_keeps 65 = .ok (.getfield 13, 3) := by decide +kernel
theorem dX4_keeps_68 : decode cX4_keeps 68 = .ok (.bipush 115, 2) := by decide +kernel
theorem dX4_keeps_70 : decode cX4_keeps 70 = .ok (.aload_n 0, 1) := by decide +kernel
theorem dX4_keeps_71 : decode cX4_keeps 71 = .ok (.getfield 52, 3) := by decide +kernel
theorem dX4_keeps_74 : decode cX4_keeps 74 = .ok (.imul, 1) := by decide +kernel
theorem dX4_keeps_75 : decode cX4_keeps 75 = .ok (.invokestatic 55, 3) := by decide +kernel
theorem dX4_keeps_78 : decode cX4_keeps 78 = .ok (.aload_n 0, 1) := by decide +kernel
theorem dX4_keeps_79 : decode cX4_keeps 79 = .ok (.dup, 1) := by decide +kernel
theorem dX4_keeps_80 : decode cX4_keeps 80 = .ok (.getfield 52, 3) := by decide +kernel
theorem dX4_keeps_83 : decode cX4_keeps 83 = .ok (.iconst 1, 1) := by decide +kernel
theorem dX4_keeps_84 : decode cX4_keeps 84 = .ok (.iadd, 1) := by decide +kernel
theorem dX4_keeps_85 : decode cX4_keeps 85 = .ok (.putfield 52, 3) := by decide +kernel
theorem dX4_keeps_88 : decode cX4_keeps 88 = .ok (.return_, 1) := by decide +kernel
theorem dX4_of_0 : decode cX4_of 0 = .ok (.aload_n 0, 1) := by decide +kernel
theorem dX4_of_1 : decode cX4_of 1 = .ok (.getfield 7, 3) := by decide +kernel
theorem dX4_of_4 : decode cX4_of 4 = .ok (.bipush 7, 2) := by decide +kernel
theorem dX4_of_6 : decode cX4_of 6 = .ok (.iconst 5, 1) := by decide +kernel
theorem dX4_of_7 : decode cX4_of 7 = .ok (.iload_n 1, 1) := by decide +kernel
theorem dX4_of_8 : decode cX4_of 8 = .ok (.imul, 1) := by decide +kernel
theorem dX4_of_9 : decode cX4_of 9 = .ok (.iadd, 1) := by decide +kernel
theorem dX4_of_10 : decode cX4_of 10 = .ok (.iload_n 2, 1) := by decide +kernel
theorem dX4_of_11 : decode cX4_of 11 = .ok (.iadd, 1) := by decide +kernel
theorem dX4_of_12 : decode cX4_of 12 = .ok (.iaload, 1) := by decide +kernel
theorem dX4_of_13 : decode cX4_of 13 = .ok (.ireturn, 1) := by decide +kernel
theorem dX4_lays_0 : decode cX4_lays 0 = .ok (.aload_n 0, 1) := by decide +kernel
theorem dX4_lays_1 : decode cX4_lays 1 = .ok (.getfield 7, 3) := by decide +kernel
theorem dX4_lays_4 : decode cX4_lays 4 = .ok (.bipush 7, 2) := by decide +kernel
theorem dX4_lays_6 : decode cX4_lays 6 = .ok (.iconst 5, 1) := by decide +kernel
theorem dX4_lays_7 : decode cX4_lays 7 = .ok (.iload_n 1, 1) := by decide +kernel
theorem dX4_lays_8 : decode cX4_lays 8 = .ok (.imul, 1) := by decide +kernel
theorem dX4_lays_9 : decode cX4_lays 9 = .ok (.iadd, 1) := by decide +kernel
theorem dX4_lays_10 : decode cX4_lays 10 = .ok (.iload_n 2, 1) := by decide +kernel
theorem dX4_lays_11 : decode cX4_lays 11 = .ok (.iadd, 1) := by decide +kernel
theorem dX4_lays_12 : decode cX4_lays 12 = .ok (.iload_n 3, 1) := by decide +kernel
theorem dX4_lays_13 : decode cX4_lays 13 = .ok (.iastore, 1) := by decide +kernel
theorem dX4_lays_14 : decode cX4_lays 14 = .ok (.return_, 1) := by decide +kernel
theorem dX4_isStory_0 : decode cX4_isStory 0 = .ok (.iload_n 1, 1) := by decide +kernel
theorem dX4_isStory_1 : decode cX4_isStory 1 = .ok (.iconst 0, 1) := by decide +kernel
theorem dX4_isStory_2 : decode cX4_isStory 2 = .ok (.aload_n 0, 1) := by decide +kernel
theorem dX4_isStory_3 : decode cX4_isStory 3 = .ok (.getfield 7, 3) := by decide +kernel
theorem dX4_isStory_6 : decode cX4_isStory 6 = .ok (.iconst 0, 1) := by decide +kernel
theorem dX4_isStory_7 : decode cX4_isStory 7 = .ok (.iaload, 1) := by decide +kernel
theorem dX4_isStory_8 : decode cX4_isStory 8 = .ok (.iconst 1, 1) := by decide +kernel
theorem dX4_isStory_9 : decode cX4_isStory 9 = .ok (.isub, 1) := by decide +kernel
theorem dX4_isStory_10 : decode cX4_isStory 10 = .ok (.invokestatic 59, 3) := by decide +kernel
theorem dX4_isStory_13 : decode cX4_isStory 13 = .ok (.ireturn, 1) := by decide +kernel
theorem dX4_areStories_0 : decode cX4_areStories 0 = .ok (.aload_n 0, 1) := by decide +kernel
theorem dX4_areStories_1 : decode cX4_areStories 1 = .ok (.iload_n 1, 1) := by decide +kernel
theorem dX4_areStories_2 : decode cX4_areStories 2 = .ok (.invokevirtual 63, 3) := by decide +kernel
theorem dX4_areStories_5 : decode cX4_areStories 5 = .ok (.ifCond .eq 15, 3) := by decide +kernel
theorem dX4_areStories_8 : decode cX4_areStories 8 = .ok (.aload_n 0, 1) := by decide +kernel
theorem dX4_areStories_9 : decode cX4_areStories 9 = .ok (.iload_n 2, 1) := by decide +kernel
theorem dX4_areStories_10 : decode cX4_areStories 10 = .ok (.invokevirtual 63, 3) := by decide +kernel
theorem dX4_areStories_13 : decode cX4_areStories 13 = .ok (.ifCond .eq 7, 3) := by decide +kernel
theorem dX4_areStories_16 : decode cX4_areStories 16 = .ok (.iconst 1, 1) := by decide +kernel
theorem dX4_areStories_17 : decode cX4_areStories 17 = .ok (.goto 4, 3) := by decide +kernel
theorem dX4_areStories_20 : decode cX4_areStories 20 = .ok (.iconst 0, 1) := by decide +kernel
theorem dX4_areStories_21 : decode cX4_areStories 21 = .ok (.ireturn, 1) := by decide +kernel
theorem dX4_isEstimate_0 : decode cX4_isEstimate 0 = .ok (.iload_n 0, 1) := by decide +kernel
theorem dX4_isEstimate_1 : decode cX4_isEstimate 1 = .ok (.iconst 1, 1) := by decide +kernel
theorem dX4_isEstimate_2 : decode cX4_isEstimate 2 = .ok (.iconst 3, 1) := by decide +kernel
theorem dX4_isEstimate_3 : decode cX4_isEstimate 3 = .ok (.invokestatic 59, 3) := by decide +kernel
theorem dX4_isEstimate_6 : decode cX4_isEstimate 6 = .ok (.ifCond .ne 20, 3) := by decide +kernel
theorem dX4_isEstimate_9 : decode cX4_isEstimate 9 = .ok (.iload_n 0, 1) := by decide +kernel
theorem dX4_isEstimate_10 : decode cX4_isEstimate 10 = .ok (.iconst 5, 1) := by decide +kernel
theorem dX4_isEstimate_11 : decode cX4_isEstimate 11 = .ok (.if_icmp .eq 15, 3) := by decide +kernel
theorem dX4_isEstimate_14 : decode cX4_isEstimate 14 = .ok (.iload_n 0, 1) := by decide +kernel
theorem dX4_isEstimate_15 : decode cX4_isEstimate 15 = .ok (.bipush 8, 2) := by decide +kernel
theorem dX4_isEstimate_17 : decode cX4_isEstimate 17 = .ok (.if_icmp .eq 9, 3) := by decide +kernel
theorem dX4_isEstimate_20 : decode cX4_isEstimate 20 = .ok (.iload_n 0, 1) := by decide +kernel
theorem dX4_isEstimate_21 : decode cX4_isEstimate 21 = .ok (.bipush 13, 2) := by decide +kernel
theorem dX4_isEstimate_23 : decode cX4_isEstimate 23 = .ok (.if_icmp .ne 7, 3) := by decide +kernel
theorem dX4_isEstimate_26 : decode cX4_isEstimate 26 = .ok (.iconst 1, 1) := by decide +kernel
theorem dX4_isEstimate_27 : decode cX4_isEstimate 27 = .ok (.goto 4, 3) := by decide +kernel
theorem dX4_isEstimate_30 : decode cX4_isEstimate 30 = .ok (.iconst 0, 1) := by decide +kernel
theorem dX4_isEstimate_31 : decode cX4_isEstimate 31 = .ok (.ireturn, 1) := by decide +kernel
theorem dX4_isOver_0 : decode cX4_isOver 0 = .ok (.aload_n 0, 1) := by decide +kernel
theorem dX4_isOver_1 : decode cX4_isOver 1 = .ok (.iload_n 1, 1) := by decide +kernel
theorem dX4_isOver_2 : decode cX4_isOver 2 = .ok (.iconst 1, 1) := by decide +kernel
theorem dX4_isOver_3 : decode cX4_isOver 3 = .ok (.invokevirtual 67, 3) := by decide +kernel
theorem dX4_isOver_6 : decode cX4_isOver 6 = .ok (.ifCond .ne 7, 3) := by decide +kernel
theorem dX4_isOver_9 : decode cX4_isOver 9 = .ok (.iconst 1, 1) := by decide +kernel
theorem dX4_isOver_10 : decode cX4_isOver 10 = .ok (.goto 4, 3) := by decide +kernel
theorem dX4_isOver_13 : decode cX4_isOver 13 = .ok (.iconst 0, 1) := by decide +kernel
theorem dX4_isOver_14 : decode cX4_isOver 14 = .ok (.ireturn, 1) := by decide +kernel
theorem dX4_bars_0 : decode cX4_bars 0 = .ok (.aload_n 0, 1) := by decide +kernel
theorem dX4_bars_1 : decode cX4_bars 1 = .ok (.iload_n 1, 1) := by decide +kernel
theorem dX4_bars_2 : decode cX4_bars 2 = .ok (.iconst 4, 1) := by decide +kernel
theorem dX4_bars_3 : decode cX4_bars 3 = .ok (.invokevirtual 67, 3) := by decide +kernel
theorem dX4_bars_6 : decode cX4_bars 6 = .ok (.iload_n 2, 1) := by decide +kernel
theorem dX4_bars_7 : decode cX4_bars 7 = .ok (.ishr, 1) := by decide +kernel
theorem dX4_bars_8 : decode cX4_bars 8 = .ok (.iconst 1, 1) := by decide +kernel
theorem dX4_bars_9 : decode cX4_bars 9 = .ok (.iand, 1) := by decide +kernel
theorem dX4_bars_10 : decode cX4_bars 10 = .ok (.iconst 1, 1) := by decide +kernel
theorem dX4_bars_11 : decode cX4_bars 11 = .ok (.if_icmp .ne 7, 3) := by decide +kernel
theorem dX4_bars_14 : decode cX4_bars 14 = .ok (.iconst 1, 1) := by decide +kernel
theorem dX4_bars_15 : decode cX4_bars 15 = .ok (.goto 4, 3) := by decide +kernel
theorem dX4_bars_18 : decode cX4_bars 18 = .ok (.iconst 0, 1) := by decide +kernel
theorem dX4_bars_19 : decode cX4_bars 19 = .ok (.ireturn, 1) := by decide +kernel
theorem dX4_barsOf_0 : decode cX4_barsOf 0 = .ok (.iconst 0, 1) := by decide +kernel
theorem dX4_barsOf_1 : decode cX4_barsOf 1 = .ok (.istore_n 2, 1) := by decide +kernel
theorem dX4_barsOf_2 : decode cX4_barsOf 2 = .ok (.iconst 0, 1) := by decide +kernel
theorem dX4_barsOf_3 : decode cX4_barsOf 3 = .ok (.istore_n 3, 1) := by decide +kernel
theorem dX4_barsOf_4 : decode cX4_barsOf 4 = .ok (.iload_n 3, 1) := by decide +kernel
theorem dX4_barsOf_5 : decode cX4_barsOf 5 = .ok (.aload_n 0, 1) := by decide +kernel
theorem dX4_barsOf_6 : decode cX4_barsOf 6 = .ok (.getfield 7, 3) := by decide +kernel
theorem dX4_barsOf_9 : decode cX4_barsOf 9 = .ok (.iconst 0, 1) := by decide +kernel
theorem dX4_barsOf_10 : decode cX4_barsOf 10 = .ok (.iaload, 1) := by decide +kernel
theorem dX4_barsOf_11 : decode cX4_barsOf 11 = .ok (.if_icmp .ge 26, 3) := by decide +kernel
theorem dX4_barsOf_14 : decode cX4_barsOf 14 = .ok (.iload_n 2, 1) := by decide +kernel
theorem dX4_barsOf_15 : decode cX4_barsOf 15 = .ok (.aload_n 0, 1) := by decide +kernel
theorem dX4_barsOf_16 : decode cX4_barsOf 16 = .ok (.iload_n 1, 1) := by decide +kernel
theorem dX4_barsOf_17 : decode cX4_barsOf 17 = .ok (.iload_n 3, 1) := by decide +kernel
theorem dX4_barsOf_18 : decode cX4_barsOf 18 = .ok (.invokevirtual 71, 3) := by decide +kernel
theorem dX4_barsOf_21 : decode cX4_barsOf 21 = .ok (.ifCond .eq 7, 3) := by decide +kernel
theorem dX4_barsOf_24 : decode cX4_barsOf 24 = .ok (.iconst 1, 1) := by decide +kernel
theorem dX4_barsOf_25 : decode cX4_barsOf 25 = .ok (.goto 4, 3) := by decide +kernel
theorem dX4_barsOf_28 : decode cX4_barsOf 28 = .ok (.iconst 0, 1) := by decide +kernel
theorem dX4_barsOf_29 : decode cX4_barsOf 29 = .ok (.iadd, 1) := by decide +kernel
theorem dX4_barsOf_30 : decode cX4_barsOf 30 = .ok (.istore_n 2, 1) := by decide +kernel
theorem dX4_barsOf_31 : decode cX4_barsOf 31 = .ok (.iinc 3 1, 3) := by decide +kernel
theorem dX4_barsOf_34 : decode cX4_barsOf 34 = .ok (.goto (-30), 3) := by decide +kernel
theorem dX4_barsOf_37 : decode cX4_barsOf 37 = .ok (.iload_n 2, 1) := by decide +kernel
theorem dX4_barsOf_38 : decode cX4_barsOf 38 = .ok (.ireturn, 1) := by decide +kernel
theorem dX4_open_0 : decode cX4_open 0 = .ok (.iconst 0, 1) := by decide +kernel
theorem dX4_open_1 : decode cX4_open 1 = .ok (.istore_n 2, 1) := by decide +kernel
theorem dX4_open_2 : decode cX4_open 2 = .ok (.iconst 0, 1) := by decide +kernel
theorem dX4_open_3 : decode cX4_open 3 = .ok (.istore_n 3, 1) := by decide +kernel
theorem dX4_open_4 : decode cX4_open 4 = .ok (.iload_n 3, 1) := by decide +kernel
theorem dX4_open_5 : decode cX4_open 5 = .ok (.aload_n 0, 1) := by decide +kernel
theorem dX4_open_6 : decode cX4_open 6 = .ok (.getfield 7, 3) := by decide +kernel
theorem dX4_open_9 : decode cX4_open 9 = .ok (.iconst 0, 1) := by decide +kernel
theorem dX4_open_10 : decode cX4_open 10 = .ok (.iaload, 1) := by decide +kernel
theorem dX4_open_11 : decode cX4_open 11 = .ok (.if_icmp .ge 34, 3) := by decide +kernel
theorem dX4_open_14 : decode cX4_open 14 = .ok (.iload_n 2, 1) := by decide +kernel
theorem dX4_open_15 : decode cX4_open 15 = .ok (.aload_n 0, 1) := by decide +kernel
theorem dX4_open_16 : decode cX4_open 16 = .ok (.iload_n 1, 1) := by decide +kernel
theorem dX4_open_17 : decode cX4_open 17 = .ok (.iload_n 3, 1) := by decide +kernel
theorem dX4_open_18 : decode cX4_open 18 = .ok (.invokevirtual 71, 3) := by decide +kernel
theorem dX4_open_21 : decode cX4_open 21 = .ok (.ifCond .eq 15, 3) := by decide +kernel
theorem dX4_open_24 : decode cX4_open 24 = .ok (.aload_n 0, 1) := by decide +kernel
theorem dX4_open_25 : decode cX4_open 25 = .ok (.iload_n 3, 1) := by decide +kernel
theorem dX4_open_26 : decode cX4_open 26 = .ok (.invokevirtual 75, 3) := by decide +kernel
theorem dX4_open_29 : decode cX4_open 29 = .ok (.ifCond .ne 7, 3) := by decide +kernel
theorem dX4_open_32 : decode cX4_open 32 = .ok (.iconst 1, 1) := by decide +kernel
theorem dX4_open_33 : decode cX4_open 33 = .ok (.goto 4, 3) := by decide +kernel
theorem dX4_open_36 : decode cX4_open 36 = .ok (.iconst 0, 1) := by decide +kernel
theorem dX4_open_37 : decode cX4_open 37 = .ok (.iadd, 1) := by decide +kernel
theorem dX4_open_38 : decode cX4_open 38 = .ok (.istore_n 2, 1) := by decide +kernel
theorem dX4_open_39 : decode cX4_open 39 = .ok (.iinc 3 1, 3) := by decide +kernel
theorem dX4_open_42 : decode cX4_open 42 = .ok (.goto (-38), 3) := by decide +kernel
theorem dX4_open_45 : decode cX4_open 45 = .ok (.iload_n 2, 1) := by decide +kernel
theorem dX4_open_46 : decode cX4_open 46 = .ok (.ireturn, 1) := by decide +kernel
theorem dX4_under_0 : decode cX4_under 0 = .ok (.aload_n 0, 1) := by decide +kernel
theorem dX4_under_1 : decode cX4_under 1 = .ok (.iload_n 1, 1) := by decide +kernel
theorem dX4_under_2 : decode cX4_under 2 = .ok (.iconst 4, 1) := by decide +kernel
theorem dX4_under_3 : decode cX4_under 3 = .ok (.invokevirtual 67, 3) := by decide +kernel
theorem dX4_under_6 : decode cX4_under 6 = .ok (.istore_n 2, 1) := by decide +kernel
theorem dX4_under_7 : decode cX4_under 7 = .ok (.iconst 0, 1) := by decide +kernel
theorem dX4_under_8 : decode cX4_under 8 = .ok (.istore_n 3, 1) := by decide +kernel
theorem dX4_under_9 : decode cX4_under 9 = .ok (.iload_n 2, 1) := by decide +kernel
theorem dX4_under_10 : decode cX4_under 10 = .ok (.iload_n 3, 1) := by decide +kernel
theorem dX4_under_11 : decode cX4_under 11 = .ok (.if_icmp .eq 52, 3) := by decide +kernel
theorem dX4_under_14 : decode cX4_under 14 = .ok (.iload_n 2, 1) := by decide +kernel
theorem dX4_under_15 : decode cX4_under 15 = .ok (.istore_n 3, 1) := by decide +kernel
theorem dX4_under_16 : decode cX4_under 16 = .ok (.iconst 0, 1) := by decide +kernel
theorem dX4_under_17 : decode cX4_under 17 = .ok (.istore 4, 2) := by decide +kernel
theorem dX4_under_19 : decode cX4_under 19 = .ok (.iload 4, 2) := by decide +kernel
theorem dX4_under_21 : decode cX4_under 21 = .ok (.aload_n 0, 1) := by decide +kernel
theorem dX4_under_22 : decode cX4_under 22 = .ok (.getfield 7, 3) := by decide +kernel
theorem dX4_under_25 : decode cX4_under 25 = .ok (.iconst 0, 1) := by decide +kernel
theorem dX4_under_26 : decode cX4_under 26 = .ok (.iaload, 1) := by decide +kernel
theorem dX4_under_27 : decode cX4_under 27 = .ok (.if_icmp .ge 33, 3) := by decide +kernel
theorem dX4_under_30 : decode cX4_under 30 = .ok (.iload_n 2, 1) := by decide +kernel
theorem dX4_under_31 : decode cX4_under 31 = .ok (.iload_n 3, 1) := by decide +kernel
theorem dX4_under_32 : decode cX4_under 32 = .ok (.iload 4, 2) := by decide +kernel
theorem dX4_under_34 : decode cX4_under 34 = .ok (.ishr, 1) := by decide +kernel
theorem dX4_under_35 : decode cX4_under 35 = .ok (.iconst 1, 1) := by decide +kernel
theorem dX4_under_36 : decode cX4_under 36 = .ok (.iand, 1) := by decide +kernel
theorem dX4_under_37 : decode cX4_under 37 = .ok (.iconst 1, 1) := by decide +kernel
theorem dX4_under_38 : decode cX4_under 38 = .ok (.if_icmp .ne 13, 3) := by decide +kernel
theorem dX4_under_41 : decode cX4_under 41 = .ok (.aload_n 0, 1) := by decide +kernel
theorem dX4_under_42 : decode cX4_under 42 = .ok (.iload 4, 2) := by decide +kernel
theorem dX4_under_44 : decode cX4_under 44 = .ok (.iconst 4, 1) := by decide +kernel
theorem dX4_under_45 : decode cX4_under 45 = .ok (.invokevirtual 67, 3) := by decide +kernel
theorem dX4_under_48 : decode cX4_under 48 = .ok (.goto 4, 3) := by decide +kernel
theorem dX4_under_51 : decode cX4_under 51 = .ok (.iconst 0, 1) := by decide +kernel
theorem dX4_under_52 : decode cX4_under 52 = .ok (.ior, 1) := by decide +kernel
theorem dX4_under_53 : decode cX4_under 53 = .ok (.istore_n 2, 1) := by decide +kernel
theorem dX4_under_54 : decode cX4_under 54 = .ok (.iinc 4 1, 3) := by decide +kernel
theorem dX4_under_57 : decode cX4_under 57 = .ok (.goto (-38), 3) := by decide +kernel
theorem dX4_under_60 : decode cX4_under 60 = .ok (.goto (-51), 3) := by decide +kernel
theorem dX4_under_63 : decode cX4_under 63 = .ok (.iload_n 2, 1) := by decide +kernel
theorem dX4_under_64 : decode cX4_under 64 = .ok (.ireturn, 1) := by decide +kernel
theorem dX4_depends_0 : decode cX4_depends 0 = .ok (.aload_n 0, 1) := by decide +kernel
theorem dX4_depends_1 : decode cX4_depends 1 = .ok (.iload_n 1, 1) := by decide +kernel
theorem dX4_depends_2 : decode cX4_depends 2 = .ok (.invokevirtual 78, 3) := by decide +kernel
theorem dX4_depends_5 : decode cX4_depends 5 = .ok (.iload_n 2, 1) := by decide +kernel
theorem dX4_depends_6 : decode cX4_depends 6 = .ok (.ishr, 1) := by decide +kernel
theorem dX4_depends_7 : decode cX4_depends 7 = .ok (.iconst 1, 1) := by decide +kernel
theorem dX4_depends_8 : decode cX4_depends 8 = .ok (.iand, 1) := by decide +kernel
theorem dX4_depends_9 : decode cX4_depends 9 = .ok (.iconst 1, 1) := by decide +kernel
theorem dX4_depends_10 : decode cX4_depends 10 = .ok (.if_icmp .ne 7, 3) := by decide +kernel
theorem dX4_depends_13 : decode cX4_depends 13 = .ok (.iconst 1, 1) := by decide +kernel
theorem dX4_depends_14 : decode cX4_depends 14 = .ok (.goto 4, 3) := by decide +kernel
theorem dX4_depends_17 : decode cX4_depends 17 = .ok (.iconst 0, 1) := by decide +kernel
theorem dX4_depends_18 : decode cX4_depends 18 = .ok (.ireturn, 1) := by decide +kernel
theorem dX4_frees_0 : decode cX4_frees 0 = .ok (.aload_n 0, 1) := by decide +kernel
theorem dX4_frees_1 : decode cX4_frees 1 = .ok (.aload_n 0, 1) := by decide +kernel
theorem dX4_frees_2 : decode cX4_frees 2 = .ok (.getfield 7, 3) := by decide +kernel
theorem dX4_frees_5 : decode cX4_frees 5 = .ok (.bipush 87, 2) := by decide +kernel
theorem dX4_frees_7 : decode cX4_frees 7 = .ok (.iconst 2, 1) := by decide +kernel
theorem dX4_frees_8 : decode cX4_frees 8 = .ok (.iload_n 1, 1) := by decide +kernel
theorem dX4_frees_9 : decode cX4_frees 9 = .ok (.imul, 1) := by decide +kernel
theorem dX4_frees_10 : decode cX4_frees 10 = .ok (.iadd, 1) := by decide +kernel
theorem dX4_frees_11 : decode cX4_frees 11 = .ok (.iconst 1, 1) := by decide +kernel
theorem dX4_frees_12 : decode cX4_frees 12 = .ok (.iadd, 1) := by decide +kernel
theorem dX4_frees_13 : decode cX4_frees 13 = .ok (.iaload, 1) := by decide +kernel
theorem dX4_frees_14 : decode cX4_frees 14 = .ok (.iconst 3, 1) := by decide +kernel
theorem dX4_frees_15 : decode cX4_frees 15 = .ok (.iconst (-1), 1) := by decide +kernel
theorem dX4_frees_16 : decode cX4_frees 16 = .ok (.invokevirtual 82, 3) := by decide +kernel
theorem dX4_frees_19 : decode cX4_frees 19 = .ok (.aload_n 0, 1) := by decide +kernel
theorem dX4_frees_20 : decode cX4_frees 20 = .ok (.getfield 7, 3) := by decide +kernel
theorem dX4_frees_23 : decode cX4_frees 23 = .ok (.bipush 87, 2) := by decide +kernel
theorem dX4_frees_25 : decode cX4_frees 25 = .ok (.iconst 2, 1) := by decide +kernel
theorem dX4_frees_26 : decode cX4_frees 26 = .ok (.iload_n 1, 1) := by decide +kernel
theorem dX4_frees_27 : decode cX4_frees 27 = .ok (.imul, 1) := by decide +kernel
theorem dX4_frees_28 : decode cX4_frees 28 = .ok (.iadd, 1) := by decide +kernel
theorem dX4_frees_29 : decode cX4_frees 29 = .ok (.iconst 1, 1) := by decide +kernel
theorem dX4_frees_30 : decode cX4_frees 30 = .ok (.iadd, 1) := by decide +kernel
theorem dX4_frees_31 : decode cX4_frees 31 = .ok (.iconst (-1), 1) := by decide +kernel
theorem dX4_frees_32 : decode cX4_frees 32 = .ok (.iastore, 1) := by decide +kernel
theorem dX4_frees_33 : decode cX4_frees 33 = .ok (.return_, 1) := by decide +kernel
theorem dX4_addStory_0 : decode cX4_addStory 0 = .ok (.aload_n 0, 1) := by decide +kernel
theorem dX4_addStory_1 : decode cX4_addStory 1 = .ok (.iload_n 1, 1) := by decide +kernel
theorem dX4_addStory_2 : decode cX4_addStory 2 = .ok (.invokestatic 86, 3) := by decide +kernel
theorem dX4_addStory_5 : decode cX4_addStory 5 = .ok (.ifCond .ne 7, 3) := by decide +kernel
theorem dX4_addStory_8 : decode cX4_addStory 8 = .ok (.iconst 1, 1) := by decide +kernel
theorem dX4_addStory_9 : decode cX4_addStory 9 = .ok (.goto 19, 3) := by decide +kernel
theorem dX4_addStory_12 : decode cX4_addStory 12 = .ok (.aload_n 0, 1) := by decide +kernel
theorem dX4_addStory_13 : decode cX4_addStory 13 = .ok (.getfield 7, 3) := by decide +kernel
theorem dX4_addStory_16 : decode cX4_addStory 16 = .ok (.iconst 0, 1) := by decide +kernel
theorem dX4_addStory_17 : decode cX4_addStory 17 = .ok (.iaload, 1) := by decide +kernel
theorem dX4_addStory_18 : decode cX4_addStory 18 = .ok (.bipush 16, 2) := by decide +kernel
theorem dX4_addStory_20 : decode cX4_addStory 20 = .ok (.if_icmp .ne 7, 3) := by decide +kernel
theorem dX4_addStory_23 : decode cX4_addStory 23 = .ok (.iconst 2, 1) := by decide +kernel
theorem dX4_addStory_24 : decode cX4_addStory 24 = .ok (.goto 4, 3) := by decide +kernel
theorem dX4_addStory_27 : decode cX4_addStory 27 = .ok (.iconst 0, 1) := by decide +kernel
theorem dX4_addStory_28 : decode cX4_addStory 28 = .ok (.invokevirtual 89, 3) := by decide +kernel
theorem dX4_addStory_31 : decode cX4_addStory 31 = .ok (.ifCond .eq 5, 3) := by decide +kernel
theorem dX4_addStory_34 : decode cX4_addStory 34 = .ok (.iconst 0, 1) := by decide +kernel
theorem dX4_addStory_35 : decode cX4_addStory 35 = .ok (.ireturn, 1) := by decide +kernel
theorem dX4_addStory_36 : decode cX4_addStory 36 = .ok (.aload_n 0, 1) := by decide +kernel
theorem dX4_addStory_37 : decode cX4_addStory 37 = .ok (.aload_n 0, 1) := by decide +kernel
theorem dX4_addStory_38 : decode cX4_addStory 38 = .ok (.getfield 7, 3) := by decide +kernel
theorem dX4_addStory_41 : decode cX4_addStory 41 = .ok (.invokevirtual 92, 3) := by decide +kernel
theorem dX4_addStory_44 : decode cX4_addStory 44 = .ok (.aload_n 0, 1) := by decide +kernel
theorem dX4_addStory_45 : decode cX4_addStory 45 = .ok (.getfield 7, 3) := by decide +kernel
theorem dX4_addStory_48 : decode cX4_addStory 48 = .ok (.iconst 0, 1) := by decide +kernel
theorem dX4_addStory_49 : decode cX4_addStory 49 = .ok (.iaload, 1) := by decide +kernel
theorem dX4_addStory_50 : decode cX4_addStory 50 = .ok (.istore_n 2, 1) := by decide +kernel
theorem dX4_addStory_51 : decode cX4_addStory 51 = .ok (.aload_n 0, 1) := by decide +kernel
theorem dX4_addStory_52 : decode cX4_addStory 52 = .ok (.getfield 7, 3) := by decide +kernel
theorem dX4_addStory_55 : decode cX4_addStory 55 = .ok (.iconst 0, 1) := by decide +kernel
theorem dX4_addStory_56 : decode cX4_addStory 56 = .ok (.dup2, 1) := by decide +kernel
theorem dX4_addStory_57 : decode cX4_addStory 57 = .ok (.iaload, 1) := by decide +kernel
theorem dX4_addStory_58 : decode cX4_addStory 58 = .ok (.iconst 1, 1) := by decide +kernel
theorem dX4_addStory_59 : decode cX4_addStory 59 = .ok (.iadd, 1) := by decide +kernel
theorem dX4_addStory_60 : decode cX4_addStory 60 = .ok (.iastore, 1) := by decide +kernel
theorem dX4_addStory_61 : decode cX4_addStory 61 = .ok (.aload_n 0, 1) := by decide +kernel
theorem dX4_addStory_62 : decode cX4_addStory 62 = .ok (.iload_n 2, 1) := by decide +kernel
theorem dX4_addStory_63 : decode cX4_addStory 63 = .ok (.iconst 0, 1) := by decide +kernel
theorem dX4_addStory_64 : decode cX4_addStory 64 = .ok (.iload_n 1, 1) := by decide +kernel
theorem dX4_addStory_65 : decode cX4_addStory 65 = .ok (.invokevirtual 82, 3) := by decide +kernel
theorem dX4_addStory_68 : decode cX4_addStory 68 = .ok (.aload_n 0, 1) := by decide +kernel
theorem dX4_addStory_69 : decode cX4_addStory 69 = .ok (.iload_n 2, 1) := by decide +kernel
theorem dX4_addStory_70 : decode cX4_addStory 70 = .ok (.iconst 1, 1) := by decide +kernel
theorem dX4_addStory_71 : decode cX4_addStory 71 = .ok (.iload_n 1, 1) := by decide +kernel
theorem dX4_addStory_72 : decode cX4_addStory 72 = .ok (.invokevirtual 82, 3) := by decide +kernel
theorem dX4_addStory_75 : decode cX4_addStory 75 = .ok (.aload_n 0, 1) := by decide +kernel
theorem dX4_addStory_76 : decode cX4_addStory 76 = .ok (.iload_n 2, 1) := by decide +kernel
theorem dX4_addStory_77 : decode cX4_addStory 77 = .ok (.iconst 2, 1) := by decide +kernel
theorem dX4_addStory_78 : decode cX4_addStory 78 = .ok (.iconst 0, 1) := by decide +kernel
theorem dX4_addStory_79 : decode cX4_addStory 79 = .ok (.invokevirtual 82, 3) := by decide +kernel
theorem dX4_addStory_82 : decode cX4_addStory 82 = .ok (.aload_n 0, 1) := by decide +kernel
theorem dX4_addStory_83 : decode cX4_addStory 83 = .ok (.iload_n 2, 1) := by decide +kernel
theorem dX4_addStory_84 : decode cX4_addStory 84 = .ok (.iconst 3, 1) := by decide +kernel
theorem dX4_addStory_85 : decode cX4_addStory 85 = .ok (.iconst (-1), 1) := by decide +kernel
theorem dX4_addStory_86 : decode cX4_addStory 86 = .ok (.invokevirtual 82, 3) := by decide +kernel
theorem dX4_addStory_89 : decode cX4_addStory 89 = .ok (.aload_n 0, 1) := by decide +kernel
theorem dX4_addStory_90 : decode cX4_addStory 90 = .ok (.iload_n 2, 1) := by decide +kernel
theorem dX4_addStory_91 : decode cX4_addStory 91 = .ok (.iconst 4, 1) := by decide +kernel
theorem dX4_addStory_92 : decode cX4_addStory 92 = .ok (.iconst 0, 1) := by decide +kernel
theorem dX4_addStory_93 : decode cX4_addStory 93 = .ok (.invokevirtual 82, 3) := by decide +kernel
theorem dX4_addStory_96 : decode cX4_addStory 96 = .ok (.iload_n 2, 1) := by decide +kernel
theorem dX4_addStory_97 : decode cX4_addStory 97 = .ok (.ireturn, 1) := by decide +kernel
theorem dX4_reestimate_0 : decode cX4_reestimate 0 = .ok (.aload_n 0, 1) := by decide +kernel
theorem dX4_reestimate_1 : decode cX4_reestimate 1 = .ok (.aload_n 0, 1) := by decide +kernel
theorem dX4_reestimate_2 : decode cX4_reestimate 2 = .ok (.iload_n 1, 1) := by decide +kernel
theorem dX4_reestimate_3 : decode cX4_reestimate 3 = .ok (.invokevirtual 63, 3) := by decide +kernel
theorem dX4_reestimate_6 : decode cX4_reestimate 6 = .ok (.ifCond .ne 7, 3) := by decide +kernel
theorem dX4_reestimate_9 : decode cX4_reestimate 9 = .ok (.iconst 1, 1) := by decide +kernel
theorem dX4_reestimate_10 : decode cX4_reestimate 10 = .ok (.goto 27, 3) := by decide +kernel
theorem dX4_reestimate_13 : decode cX4_reestimate 13 = .ok (.iload_n 2, 1) := by decide +kernel
theorem dX4_reestimate_14 : decode cX4_reestimate 14 = .ok (.invokestatic 86, 3) := by decide +kernel
theorem dX4_reestimate_17 : decode cX4_reestimate 17 = .ok (.ifCond .ne 7, 3) := by decide +kernel
theorem dX4_reestimate_20 : decode cX4_reestimate 20 = .ok (.iconst 2, 1) := by decide +kernel
theorem dX4_reestimate_21 : decode cX4_reestimate 21 = .ok (.goto 16, 3) := by decide +kernel
theorem dX4_reestimate_24 : decode cX4_reestimate 24 = .ok (.aload_n 0, 1) := by decide +kernel
theorem dX4_reestimate_25 : decode cX4_reestimate 25 = .ok (.iload_n 1, 1) := by decide +kernel
theorem dX4_reestimate_26 : decode cX4_reestimate 26 = .ok (.invokevirtual 75, 3) := by decide +kernel
theorem dX4_reestimate_29 : decode cX4_reestimate 29 = .ok (.ifCond .eq 7, 3) := by decide +kernel
theorem dX4_reestimate_32 : decode cX4_reestimate 32 = .ok (.iconst 3, 1) := by decide +kernel
theorem dX4_reestimate_33 : decode cX4_reestimate 33 = .ok (.goto 4, 3) := by decide +kernel
theorem dX4_reestimate_36 : decode cX4_reestimate 36 = .ok (.iconst 0, 1) := by decide +kernel
theorem dX4_reestimate_37 : decode cX4_reestimate 37 = .ok (.invokevirtual 89, 3) := by decide +kernel
theorem dX4_reestimate_40 : decode cX4_reestimate 40 = .ok (.ifCond .eq 5, 3) := by decide +kernel
theorem dX4_reestimate_43 : decode cX4_reestimate 43 = .ok (.iconst 0, 1) := by decide +kernel
theorem dX4_reestimate_44 : decode cX4_reestimate 44 = .ok (.ireturn, 1) := by decide +kernel
theorem dX4_reestimate_45 : decode cX4_reestimate 45 = .ok (.aload_n 0, 1) := by decide +kernel
theorem dX4_reestimate_46 : decode cX4_reestimate 46 = .ok (.aload_n 0, 1) := by decide +kernel
theorem dX4_reestimate_47 : decode cX4_reestimate 47 = .ok (.getfield 7, 3) := by decide +kernel
theorem dX4_reestimate_50 : decode cX4_reestimate 50 = .ok (.invokevirtual 92, 3) := by decide +kernel
theorem dX4_reestimate_53 : decode cX4_reestimate 53 = .ok (.aload_n 0, 1) := by decide +kernel
theorem dX4_reestimate_54 : decode cX4_reestimate 54 = .ok (.iload_n 1, 1) := by decide +kernel
theorem dX4_reestimate_55 : decode cX4_reestimate 55 = .ok (.iconst 0, 1) := by decide +kernel
theorem dX4_reestimate_56 : decode cX4_reestimate 56 = .ok (.invokevirtual 67, 3) := by decide +kernel
theorem dX4_reestimate_59 : decode cX4_reestimate 59 = .ok (.aload_n 0, 1) := by decide +kernel
theorem dX4_reestimate_60 : decode cX4_reestimate 60 = .ok (.iload_n 1, 1) := by decide +kernel
theorem dX4_reestimate_61 : decode cX4_reestimate 61 = .ok (.iconst 1, 1) := by decide +kernel
theorem dX4_reestimate_62 : decode cX4_reestimate 62 = .ok (.invokevirtual 67, 3) := by decide +kernel
theorem dX4_reestimate_65 : decode cX4_reestimate 65 = .ok (.isub, 1) := by decide +kernel
theorem dX4_reestimate_66 : decode cX4_reestimate 66 = .ok (.istore_n 3, 1) := by decide +kernel
theorem dX4_reestimate_67 : decode cX4_reestimate 67 = .ok (.aload_n 0, 1) := by decide +kernel
theorem dX4_reestimate_68 : decode cX4_reestimate 68 = .ok (.iload_n 1, 1) := by decide +kernel
theorem dX4_reestimate_69 : decode cX4_reestimate 69 = .ok (.iconst 0, 1) := by decide +kernel
theorem dX4_reestimate_70 : decode cX4_reestimate 70 = .ok (.iload_n 2, 1) := by decide +kernel
theorem dX4_reestimate_71 : decode cX4_reestimate 71 = .ok (.invokevirtual 82, 3) := by decide +kernel
theorem dX4_reestimate_74 : decode cX4_reestimate 74 = .ok (.aload_n 0, 1) := by decide +kernel
theorem dX4_reestimate_75 : decode cX4_reestimate 75 = .ok (.iload_n 1, 1) := by decide +kernel
theorem dX4_reestimate_76 : decode cX4_reestimate 76 = .ok (.iconst 1, 1) := by decide +kernel
theorem dX4_reestimate_77 : decode cX4_reestimate 77 = .ok (.iload_n 2, 1) := by decide +kernel
theorem dX4_reestimate_78 : decode cX4_reestimate 78 = .ok (.iload_n 3, 1) := by decide +kernel
theorem dX4_reestimate_79 : decode cX4_reestimate 79 = .ok (.iload_n 2, 1) := by decide +kernel
theorem dX4_reestimate_80 : decode cX4_reestimate 80 = .ok (.invokestatic 96, 3) := by decide +kernel
theorem dX4_reestimate_83 : decode cX4_reestimate 83 = .ok (.isub, 1) := by decide +kernel
theorem dX4_reestimate_84 : decode cX4_reestimate 84 = .ok (.invokevirtual 82, 3) := by decide +kernel
theorem dX4_reestimate_87 : decode cX4_reestimate 87 = .ok (.aload_n 0, 1) := by decide +kernel
theorem dX4_reestimate_88 : decode cX4_reestimate 88 = .ok (.iload_n 1, 1) := by decide +kernel
theorem dX4_reestimate_89 : decode cX4_reestimate 89 = .ok (.invokevirtual 75, 3) := by decide +kernel
theorem dX4_reestimate_92 : decode cX4_reestimate 92 = .ok (.ifCond .eq 22, 3) := by decide +kernel
theorem dX4_reestimate_95 : decode cX4_reestimate 95 = .ok (.aload_n 0, 1) := by decide +kernel
theorem dX4_reestimate_96 : decode cX4_reestimate 96 = .ok (.iload_n 1, 1) := by decide +kernel
theorem dX4_reestimate_97 : decode cX4_reestimate 97 = .ok (.iconst 3, 1) := by decide +kernel
theorem dX4_reestimate_98 : decode cX4_reestimate 98 = .ok (.invokevirtual 67, 3) := by decide +kernel
theorem dX4_reestimate_101 : decode cX4_reestimate 101 = .ok (.ifCond .lt 13, 3) := by decide +kernel
theorem dX4_reestimate_104 : decode cX4_reestimate 104 = .ok (.aload_n 0, 1) := by decide +kernel
theorem dX4_reestimate_105 : decode cX4_reestimate 105 = .ok (.aload_n 0, 1) := by decide +kernel
theorem dX4_reestimate_106 : decode cX4_reestimate 106 = .ok (.iload_n 1, 1) := by decide +kernel
theorem dX4_reestimate_107 : decode cX4_reestimate 107 = .ok (.iconst 3, 1) := by decide +kernel
theorem dX4_reestimate_108 : decode cX4_reestimate 108 = .ok (.invokevirtual 67, 3) := by decide +kernel
theorem dX4_reestimate_111 : decode cX4_reestimate 111 = .ok (.invokevirtual 99, 3) := by decide +kernel
theorem dX4_reestimate_114 : decode cX4_reestimate 114 = .ok (.aload_n 0, 1) := by decide +kernel
theorem dX4_reestimate_115 : decode cX4_reestimate 115 = .ok (.iload_n 1, 1) := by decide +kernel
theorem dX4_reestimate_116 : decode cX4_reestimate 116 = .ok (.iconst 1, 1) := by decide +kernel
theorem dX4_reestimate_117 : decode cX4_reestimate 117 = .ok (.invokevirtual 67, 3) := by decide +kernel
theorem dX4_reestimate_120 : decode cX4_reestimate 120 = .ok (.ireturn, 1) := by decide +kernel
theorem dX4_block_0 : decode cX4_block 0 = .ok (.aload_n 0, 1) := by decide +kernel
theorem dX4_block_1 : decode cX4_block 1 = .ok (.aload_n 0, 1) := by decide +kernel
theorem dX4_block_2 : decode cX4_block 2 = .ok (.iload_n 1, 1) := by decide +kernel
theorem dX4_block_3 : decode cX4_block 3 = .ok (.iload_n 2, 1) := by decide +kernel
theorem dX4_block_4 : decode cX4_block 4 = .ok (.invokevirtual 103, 3) := by decide +kernel
theorem dX4_block_7 : decode cX4_block 7 = .ok (.ifCond .ne 7, 3) := by decide +kernel
theorem dX4_block_10 : decode cX4_block 10 = .ok (.iconst 1, 1) := by decide +kernel
theorem dX4_block_11 : decode cX4_block 11 = .ok (.goto 47, 3) := by decide +kernel
theorem dX4_block_14 : decode cX4_block 14 = .ok (.iload_n 1, 1) := by decide +kernel
theorem dX4_block_15 : decode cX4_block 15 = .ok (.iload_n 2, 1) := by decide +kernel
theorem dX4_block_16 : decode cX4_block 16 = .ok (.if_icmp .ne 7, 3) := by decide +kernel
theorem dX4_block_19 : decode cX4_block 19 = .ok (.iconst 2, 1) := by decide +kernel
theorem dX4_block_20 : decode cX4_block 20 = .ok (.goto 38, 3) := by decide +kernel
theorem dX4_block_23 : decode cX4_block 23 = .ok (.aload_n 0, 1) := by decide +kernel
theorem dX4_block_24 : decode cX4_block 24 = .ok (.iload_n 1, 1) := by decide +kernel
theorem dX4_block_25 : decode cX4_block 25 = .ok (.iload_n 2, 1) := by decide +kernel
theorem dX4_block_26 : decode cX4_block 26 = .ok (.invokevirtual 71, 3) := by decide +kernel
theorem dX4_block_29 : decode cX4_block 29 = .ok (.ifCond .ne 11, 3) := by decide +kernel
theorem dX4_block_32 : decode cX4_block 32 = .ok (.aload_n 0, 1) := by decide +kernel
theorem dX4_block_33 : decode cX4_block 33 = .ok (.iload_n 1, 1) := by decide +kernel
theorem dX4_block_34 : decode cX4_block 34 = .ok (.invokevirtual 75, 3) := by decide +kernel
theorem dX4_block_37 : decode cX4_block 37 = .ok (.ifCond .eq 7, 3) := by decide +kernel
theorem dX4_block_40 : decode cX4_block 40 = .ok (.iconst 3, 1) := by decide +kernel
theorem dX4_block_41 : decode cX4_block 41 = .ok (.goto 17, 3) := by decide +kernel
theorem dX4_block_44 : decode cX4_block 44 = .ok (.aload_n 0, 1) := by decide +kernel
theorem dX4_block_45 : decode cX4_block 45 = .ok (.iload_n 2, 1) := by decide +kernel
theorem dX4_block_46 : decode cX4_block 46 = .ok (.iload_n 1, 1) := by decide +kernel
theorem dX4_block_47 : decode cX4_block 47 = .ok (.invokevirtual 106, 3) := by decide +kernel
theorem dX4_block_50 : decode cX4_block 50 = .ok (.ifCond .eq 7, 3) := by decide +kernel
theorem dX4_block_53 : decode cX4_block 53 = .ok (.iconst 4, 1) := by decide +kernel
theorem dX4_block_54 : decode cX4_block 54 = .ok (.goto 4, 3) := by decide +kernel
theorem dX4_block_57 : decode cX4_block 57 = .ok (.iconst 0, 1) := by decide +kernel
theorem dX4_block_58 : decode cX4_block 58 = .ok (.invokevirtual 89, 3) := by decide +kernel
theorem dX4_block_61 : decode cX4_block 61 = .ok (.ifCond .eq 5, 3) := by decide +kernel
theorem dX4_block_64 : decode cX4_block 64 = .ok (.iconst 0, 1) := by decide +kernel
theorem dX4_block_65 : decode cX4_block 65 = .ok (.ireturn, 1) := by decide +kernel
theorem dX4_block_66 : decode cX4_block 66 = .ok (.aload_n 0, 1) := by decide +kernel
theorem dX4_block_67 : decode cX4_block 67 = .ok (.aload_n 0, 1) := by decide +kernel
theorem dX4_block_68 : decode cX4_block 68 = .ok (.getfield 7, 3) := by decide +kernel
theorem dX4_block_71 : decode cX4_block 71 = .ok (.invokevirtual 92, 3) := by decide +kernel
theorem dX4_block_74 : decode cX4_block 74 = .ok (.aload_n 0, 1) := by decide +kernel
theorem dX4_block_75 : decode cX4_block 75 = .ok (.iload_n 1, 1) := by decide +kernel
theorem dX4_block_76 : decode cX4_block 76 = .ok (.iconst 4, 1) := by decide +kernel
theorem dX4_block_77 : decode cX4_block 77 = .ok (.aload_n 0, 1) := by decide +kernel
theorem dX4_block_78 : decode cX4_block 78 = .ok (.iload_n 1, 1) := by decide +kernel
theorem dX4_block_79 : decode cX4_block 79 = .ok (.iconst 4, 1) := by decide +kernel
theorem dX4_block_80 : decode cX4_block 80 = .ok (.invokevirtual 67, 3) := by decide +kernel
theorem dX4_block_83 : decode cX4_block 83 = .ok (.iconst 1, 1) := by decide +kernel
theorem dX4_block_84 : decode cX4_block 84 = .ok (.iload_n 2, 1) := by decide +kernel
theorem dX4_block_85 : decode cX4_block 85 = .ok (.ishl, 1) := by decide +kernel
theorem dX4_block_86 : decode cX4_block 86 = .ok (.ior, 1) := by decide +kernel
theorem dX4_block_87 : decode cX4_block 87 = .ok (.invokevirtual 82, 3) := by decide +kernel
theorem dX4_block_90 : decode cX4_block 90 = .ok (.aload_n 0, 1) := by decide +kernel
theorem dX4_block_91 : decode cX4_block 91 = .ok (.iload_n 1, 1) := by decide +kernel
theorem dX4_block_92 : decode cX4_block 92 = .ok (.invokevirtual 109, 3) := by decide +kernel
theorem dX4_block_95 : decode cX4_block 95 = .ok (.ireturn, 1) := by decide +kernel
theorem dX4_unblock_0 : decode cX4_unblock 0 = .ok (.aload_n 0, 1) := by decide +kernel
theorem dX4_unblock_1 : decode cX4_unblock 1 = .ok (.aload_n 0, 1) := by decide +kernel
theorem dX4_unblock_2 : decode cX4_unblock 2 = .ok (.iload_n 1, 1) := by decide +kernel
theorem dX4_unblock_3 : decode cX4_unblock 3 = .ok (.iload_n 2, 1) := by decide +kernel
theorem dX4_unblock_4 : decode cX4_unblock 4 = .ok (.invokevirtual 103, 3) := by decide +kernel
theorem dX4_unblock_7 : decode cX4_unblock 7 = .ok (.ifCond .ne 7, 3) := by decide +kernel
theorem dX4_unblock_10 : decode cX4_unblock 10 = .ok (.iconst 1, 1) := by decide +kernel
theorem dX4_unblock_11 : decode cX4_unblock 11 = .ok (.goto 17, 3) := by decide +kernel
theorem dX4_unblock_14 : decode cX4_unblock 14 = .ok (.aload_n 0, 1) := by decide +kernel
theorem dX4_unblock_15 : decode cX4_unblock 15 = .ok (.iload_n 1, 1) := by decide +kernel
theorem dX4_unblock_16 : decode cX4_unblock 16 = .ok (.iload_n 2, 1) := by decide +kernel
theorem dX4_unblock_17 : decode cX4_unblock 17 = .ok (.invokevirtual 71, 3) := by decide +kernel
theorem dX4_unblock_20 : decode cX4_unblock 20 = .ok (.ifCond .ne 7, 3) := by decide +kernel
theorem dX4_unblock_23 : decode cX4_unblock 23 = .ok (.iconst 2, 1) := by decide +kernel
theorem dX4_unblock_24 : decode cX4_unblock 24 = .ok (.goto 4, 3) := by decide +kernel
theorem dX4_unblock_27 : decode cX4_unblock 27 = .ok (.iconst 0, 1) := by decide +kernel
theorem dX4_unblock_28 : decode cX4_unblock 28 = .ok (.invokevirtual 89, 3) := by decide +kernel
theorem dX4_unblock_31 : decode cX4_unblock 31 = .ok (.ifCond .eq 5, 3) := by decide +kernel
theorem dX4_unblock_34 : decode cX4_unblock 34 = .ok (.iconst 0, 1) := by decide +kernel
theorem dX4_unblock_35 : decode cX4_unblock 35 = .ok (.ireturn, 1) := by decide +kernel
theorem dX4_unblock_36 : decode cX4_unblock 36 = .ok (.aload_n 0, 1) := by decide +kernel
theorem dX4_unblock_37 : decode cX4_unblock 37 = .ok (.aload_n 0, 1) := by decide +kernel
theorem dX4_unblock_38 : decode cX4_unblock 38 = .ok (.getfield 7, 3) := by decide +kernel
theorem dX4_unblock_41 : decode cX4_unblock 41 = .ok (.invokevirtual 92, 3) := by decide +kernel
theorem dX4_unblock_44 : decode cX4_unblock 44 = .ok (.aload_n 0, 1) := by decide +kernel
theorem dX4_unblock_45 : decode cX4_unblock 45 = .ok (.iload_n 1, 1) := by decide +kernel
theorem dX4_unblock_46 : decode cX4_unblock 46 = .ok (.iconst 4, 1) := by decide +kernel
theorem dX4_unblock_47 : decode cX4_unblock 47 = .ok (.aload_n 0, 1) := by decide +kernel
theorem dX4_unblock_48 : decode cX4_unblock 48 = .ok (.iload_n 1, 1) := by decide +kernel
theorem dX4_unblock_49 : decode cX4_unblock 49 = .ok (.iconst 4, 1) := by decide +kernel
theorem dX4_unblock_50 : decode cX4_unblock 50 = .ok (.invokevirtual 67, 3) := by decide +kernel
theorem dX4_unblock_53 : decode cX4_unblock 53 = .ok (.iconst 1, 1) := by decide +kernel
theorem dX4_unblock_54 : decode cX4_unblock 54 = .ok (.iload_n 2, 1) := by decide +kernel
theorem dX4_unblock_55 : decode cX4_unblock 55 = .ok (.ishl, 1) := by decide +kernel
theorem dX4_unblock_56 : decode cX4_unblock 56 = .ok (.iconst (-1), 1) := by decide +kernel
theorem dX4_unblock_57 : decode cX4_unblock 57 = .ok (.ixor, 1) := by decide +kernel
theorem dX4_unblock_58 : decode cX4_unblock 58 = .ok (.iand, 1) := by decide +kernel
theorem dX4_unblock_59 : decode cX4_unblock 59 = .ok (.invokevirtual 82, 3) := by decide +kernel
theorem dX4_unblock_62 : decode cX4_unblock 62 = .ok (.aload_n 0, 1) := by decide +kernel
theorem dX4_unblock_63 : decode cX4_unblock 63 = .ok (.iload_n 1, 1) := by decide +kernel
theorem dX4_unblock_64 : decode cX4_unblock 64 = .ok (.invokevirtual 109, 3) := by decide +kernel
theorem dX4_unblock_67 : decode cX4_unblock 67 = .ok (.ireturn, 1) := by decide +kernel
theorem dX4_storyCount_0 : decode cX4_storyCount 0 = .ok (.aload_n 0, 1) := by decide +kernel
theorem dX4_storyCount_1 : decode cX4_storyCount 1 = .ok (.iconst 0, 1) := by decide +kernel
theorem dX4_storyCount_2 : decode cX4_storyCount 2 = .ok (.putfield 45, 3) := by decide +kernel
theorem dX4_storyCount_5 : decode cX4_storyCount 5 = .ok (.aload_n 0, 1) := by decide +kernel
theorem dX4_storyCount_6 : decode cX4_storyCount 6 = .ok (.getfield 7, 3) := by decide +kernel
theorem dX4_storyCount_9 : decode cX4_storyCount 9 = .ok (.iconst 0, 1) := by decide +kernel
theorem dX4_storyCount_10 : decode cX4_storyCount 10 = .ok (.iaload, 1) := by decide +kernel
theorem dX4_storyCount_11 : decode cX4_storyCount 11 = .ok (.ireturn, 1) := by decide +kernel
theorem dX4_isNone_0 : decode cX4_isNone 0 = .ok (.aload_n 0, 1) := by decide +kernel
theorem dX4_isNone_1 : decode cX4_isNone 1 = .ok (.aload_n 0, 1) := by decide +kernel
theorem dX4_isNone_2 : decode cX4_isNone 2 = .ok (.iload_n 1, 1) := by decide +kernel
theorem dX4_isNone_3 : decode cX4_isNone 3 = .ok (.invokevirtual 63, 3) := by decide +kernel
theorem dX4_isNone_6 : decode cX4_isNone 6 = .ok (.ifCond .eq 7, 3) := by decide +kernel
theorem dX4_isNone_9 : decode cX4_isNone 9 = .ok (.iconst 0, 1) := by decide +kernel
theorem dX4_isNone_10 : decode cX4_isNone 10 = .ok (.goto 4, 3) := by decide +kernel
theorem dX4_isNone_13 : decode cX4_isNone 13 = .ok (.iconst 1, 1) := by decide +kernel
theorem dX4_isNone_14 : decode cX4_isNone 14 = .ok (.invokevirtual 89, 3) := by decide +kernel
theorem dX4_isNone_17 : decode cX4_isNone 17 = .ok (.ireturn, 1) := by decide +kernel
theorem dX4_areNone_0 : decode cX4_areNone 0 = .ok (.aload_n 0, 1) := by decide +kernel
theorem dX4_areNone_1 : decode cX4_areNone 1 = .ok (.aload_n 0, 1) := by decide +kernel
theorem dX4_areNone_2 : decode cX4_areNone 2 = .ok (.iload_n 1, 1) := by decide +kernel
theorem dX4_areNone_3 : decode cX4_areNone 3 = .ok (.iload_n 2, 1) := by decide +kernel
theorem dX4_areNone_4 : decode cX4_areNone 4 = .ok (.invokevirtual 103, 3) := by decide +kernel
theorem dX4_areNone_7 : decode cX4_areNone 7 = .ok (.ifCond .eq 7, 3) := by decide +kernel
theorem dX4_areNone_10 : decode cX4_areNone 10 = .ok (.iconst 0, 1) := by decide +kernel
theorem dX4_areNone_11 : decode cX4_areNone 11 = .ok (.goto 4, 3) := by decide +kernel
theorem dX4_areNone_14 : decode cX4_areNone 14 = .ok (.iconst 1, 1) := by decide +kernel
theorem dX4_areNone_15 : decode cX4_areNone 15 = .ok (.invokevirtual 89, 3) := by decide +kernel
theorem dX4_areNone_18 : decode cX4_areNone 18 = .ok (.ireturn, 1) := by decide +kernel
theorem dX4_estimateOf_0 : decode cX4_estimateOf 0 = .ok (.aload_n 0, 1) := by decide +kernel
theorem dX4_estimateOf_1 : decode cX4_estimateOf 1 = .ok (.iload_n 1, 1) := by decide +kernel
theorem dX4_estimateOf_2 : decode cX4_estimateOf 2 = .ok (.invokevirtual 112, 3) := by decide +kernel
theorem dX4_estimateOf_5 : decode cX4_estimateOf 5 = .ok (.ifCond .eq 7, 3) := by decide +kernel
theorem dX4_estimateOf_8 : decode cX4_estimateOf 8 = .ok (.iconst 0, 1) := by decide +kernel
theorem dX4_estimateOf_9 : decode cX4_estimateOf 9 = .ok (.goto 9, 3) := by decide +kernel
theorem dX4_estimateOf_12 : decode cX4_estimateOf 12 = .ok (.aload_n 0, 1) := by decide +kernel
theorem dX4_estimateOf_13 : decode cX4_estimateOf 13 = .ok (.iload_n 1, 1) := by decide +kernel
theorem dX4_estimateOf_14 : decode cX4_estimateOf 14 = .ok (.iconst 0, 1) := by decide +kernel
theorem dX4_estimateOf_15 : decode cX4_estimateOf 15 = .ok (.invokevirtual 67, 3) := by decide +kernel
theorem dX4_estimateOf_18 : decode cX4_estimateOf 18 = .ok (.ireturn, 1) := by decide +kernel
theorem dX4_leftOf_0 : decode cX4_leftOf 0 = .ok (.aload_n 0, 1) := by decide +kernel
theorem dX4_leftOf_1 : decode cX4_leftOf 1 = .ok (.iload_n 1, 1) := by decide +kernel
theorem dX4_leftOf_2 : decode cX4_leftOf 2 = .ok (.invokevirtual 112, 3) := by decide +kernel
theorem dX4_leftOf_5 : decode cX4_leftOf 5 = .ok (.ifCond .eq 7, 3) := by decide +kernel
theorem dX4_leftOf_8 : decode cX4_leftOf 8 = .ok (.iconst 0, 1) := by decide +kernel
theorem dX4_leftOf_9 : decode cX4_leftOf 9 = .ok (.goto 9, 3) := by decide +kernel
theorem dX4_leftOf_12 : decode cX4_leftOf 12 = .ok (.aload_n 0, 1) := by decide +kernel
theorem dX4_leftOf_13 : decode cX4_leftOf 13 = .ok (.iload_n 1, 1) := by decide +kernel
theorem dX4_leftOf_14 : decode cX4_leftOf 14 = .ok (.iconst 1, 1) := by decide +kernel
theorem dX4_leftOf_15 : decode cX4_leftOf 15 = .ok (.invokevirtual 67, 3) := by decide +kernel
theorem dX4_leftOf_18 : decode cX4_leftOf 18 = .ok (.ireturn, 1) := by decide +kernel
theorem dX4_workedOn_0 : decode cX4_workedOn 0 = .ok (.aload_n 0, 1) := by decide +kernel
theorem dX4_workedOn_1 : decode cX4_workedOn 1 = .ok (.iload_n 1, 1) := by decide +kernel
theorem dX4_workedOn_2 : decode cX4_workedOn 2 = .ok (.invokevirtual 112, 3) := by decide +kernel
theorem dX4_workedOn_5 : decode cX4_workedOn 5 = .ok (.ifCond .eq 7, 3) := by decide +kernel
theorem dX4_workedOn_8 : decode cX4_workedOn 8 = .ok (.iconst 0, 1) := by decide +kernel
theorem dX4_workedOn_9 : decode cX4_workedOn 9 = .ok (.goto 16, 3) := by decide +kernel
theorem dX4_workedOn_12 : decode cX4_workedOn 12 = .ok (.aload_n 0, 1) := by decide +kernel
theorem dX4_workedOn_13 : decode cX4_workedOn 13 = .ok (.iload_n 1, 1) := by decide +kernel
theorem dX4_workedOn_14 : decode cX4_workedOn 14 = .ok (.iconst 0, 1) := by decide +kernel
theorem dX4_workedOn_15 : decode cX4_workedOn 15 = .ok (.invokevirtual 67, 3) := by decide +kernel
theorem dX4_workedOn_18 : decode cX4_workedOn 18 = .ok (.aload_n 0, 1) := by decide +kernel
theorem dX4_workedOn_19 : decode cX4_workedOn 19 = .ok (.iload_n 1, 1) := by decide +kernel
theorem dX4_workedOn_20 : decode cX4_workedOn 20 = .ok (.iconst 1, 1) := by decide +kernel
theorem dX4_workedOn_21 : decode cX4_workedOn 21 = .ok (.invokevirtual 67, 3) := by decide +kernel
theorem dX4_workedOn_24 : decode cX4_workedOn 24 = .ok (.isub, 1) := by decide +kernel
theorem dX4_workedOn_25 : decode cX4_workedOn 25 = .ok (.ireturn, 1) := by decide +kernel
theorem dX4_isDone_0 : decode cX4_isDone 0 = .ok (.aload_n 0, 1) := by decide +kernel
theorem dX4_isDone_1 : decode cX4_isDone 1 = .ok (.iload_n 1, 1) := by decide +kernel
theorem dX4_isDone_2 : decode cX4_isDone 2 = .ok (.invokevirtual 112, 3) := by decide +kernel
theorem dX4_isDone_5 : decode cX4_isDone 5 = .ok (.ifCond .ne 15, 3) := by decide +kernel
theorem dX4_isDone_8 : decode cX4_isDone 8 = .ok (.aload_n 0, 1) := by decide +kernel
theorem dX4_isDone_9 : decode cX4_isDone 9 = .ok (.iload_n 1, 1) := by decide +kernel
theorem dX4_isDone_10 : decode cX4_isDone 10 = .ok (.invokevirtual 75, 3) := by decide +kernel
theorem dX4_isDone_13 : decode cX4_isDone 13 = .ok (.ifCond .eq 7, 3) := by decide +kernel
theorem dX4_isDone_16 : decode cX4_isDone 16 = .ok (.iconst 1, 1) := by decide +kernel
theorem dX4_isDone_17 : decode cX4_isDone 17 = .ok (.goto 4, 3) := by decide +kernel
theorem dX4_isDone_20 : decode cX4_isDone 20 = .ok (.iconst 0, 1) := by decide +kernel
theorem dX4_isDone_21 : decode cX4_isDone 21 = .ok (.ireturn, 1) := by decide +kernel
theorem dX4_isBlocked_0 : decode cX4_isBlocked 0 = .ok (.aload_n 0, 1) := by decide +kernel
theorem dX4_isBlocked_1 : decode cX4_isBlocked 1 = .ok (.iload_n 1, 1) := by decide +kernel
theorem dX4_isBlocked_2 : decode cX4_isBlocked 2 = .ok (.invokevirtual 112, 3) := by decide +kernel
theorem dX4_isBlocked_5 : decode cX4_isBlocked 5 = .ok (.ifCond .ne 15, 3) := by decide +kernel
theorem dX4_isBlocked_8 : decode cX4_isBlocked 8 = .ok (.aload_n 0, 1) := by decide +kernel
theorem dX4_isBlocked_9 : decode cX4_isBlocked 9 = .ok (.iload_n 1, 1) := by decide +kernel
theorem dX4_isBlocked_10 : decode cX4_isBlocked 10 = .ok (.invokevirtual 115, 3) := by decide +kernel
theorem dX4_isBlocked_13 : decode cX4_isBlocked 13 = .ok (.ifCond .le 7, 3) := by decide +kernel
theorem dX4_isBlocked_16 : decode cX4_isBlocked 16 = .ok (.iconst 1, 1) := by decide +kernel
theorem dX4_isBlocked_17 : decode cX4_isBlocked 17 = .ok (.goto 4, 3) := by decide +kernel
theorem dX4_isBlocked_20 : decode cX4_isBlocked 20 = .ok (.iconst 0, 1) := by decide +kernel
theorem dX4_isBlocked_21 : decode cX4_isBlocked 21 = .ok (.ireturn, 1) := by decide +kernel
theorem dX4_openBlockers_0 : decode cX4_openBlockers 0 = .ok (.aload_n 0, 1) := by decide +kernel
theorem dX4_openBlockers_1 : decode cX4_openBlockers 1 = .ok (.iload_n 1, 1) := by decide +kernel
theorem dX4_openBlockers_2 : decode cX4_openBlockers 2 = .ok (.invokevirtual 112, 3) := by decide +kernel
theorem dX4_openBlockers_5 : decode cX4_openBlockers 5 = .ok (.ifCond .eq 7, 3) := by decide +kernel
theorem dX4_openBlockers_8 : decode cX4_openBlockers 8 = .ok (.iconst 0, 1) := by decide +kernel
theorem dX4_openBlockers_9 : decode cX4_openBlockers 9 = .ok (.goto 8, 3) := by decide +kernel
theorem dX4_openBlockers_12 : decode cX4_openBlockers 12 = .ok (.aload_n 0, 1) := by decide +kernel
theorem dX4_openBlockers_13 : decode cX4_openBlockers 13 = .ok (.iload_n 1, 1) := by decide +kernel
theorem dX4_openBlockers_14 : decode cX4_openBlockers 14 = .ok (.invokevirtual 115, 3) := by decide +kernel
theorem dX4_openBlockers_17 : decode cX4_openBlockers 17 = .ok (.ireturn, 1) := by decide +kernel
theorem dX4_isBlocker_0 : decode cX4_isBlocker 0 = .ok (.aload_n 0, 1) := by decide +kernel
theorem dX4_isBlocker_1 : decode cX4_isBlocker 1 = .ok (.iload_n 1, 1) := by decide +kernel
theorem dX4_isBlocker_2 : decode cX4_isBlocker 2 = .ok (.iload_n 2, 1) := by decide +kernel
theorem dX4_isBlocker_3 : decode cX4_isBlocker 3 = .ok (.invokevirtual 118, 3) := by decide +kernel
theorem dX4_isBlocker_6 : decode cX4_isBlocker 6 = .ok (.ifCond .ne 16, 3) := by decide +kernel
theorem dX4_isBlocker_9 : decode cX4_isBlocker 9 = .ok (.aload_n 0, 1) := by decide +kernel
theorem dX4_isBlocker_10 : decode cX4_isBlocker 10 = .ok (.iload_n 1, 1) := by decide +kernel
theorem dX4_isBlocker_11 : decode cX4_isBlocker 11 = .ok (.iload_n 2, 1) := by decide +kernel
theorem dX4_isBlocker_12 : decode cX4_isBlocker 12 = .ok (.invokevirtual 71, 3) := by decide +kernel
theorem dX4_isBlocker_15 : decode cX4_isBlocker 15 = .ok (.ifCond .eq 7, 3) := by decide +kernel
theorem dX4_isBlocker_18 : decode cX4_isBlocker 18 = .ok (.iconst 1, 1) := by decide +kernel
theorem dX4_isBlocker_19 : decode cX4_isBlocker 19 = .ok (.goto 4, 3) := by decide +kernel
theorem dX4_isBlocker_22 : decode cX4_isBlocker 22 = .ok (.iconst 0, 1) := by decide +kernel
theorem dX4_isBlocker_23 : decode cX4_isBlocker 23 = .ok (.ireturn, 1) := by decide +kernel
theorem dX4_dependsOn_0 : decode cX4_dependsOn 0 = .ok (.aload_n 0, 1) := by decide +kernel
theorem dX4_dependsOn_1 : decode cX4_dependsOn 1 = .ok (.iload_n 1, 1) := by decide +kernel
theorem dX4_dependsOn_2 : decode cX4_dependsOn 2 = .ok (.iload_n 2, 1) := by decide +kernel
theorem dX4_dependsOn_3 : decode cX4_dependsOn 3 = .ok (.invokevirtual 118, 3) := by decide +kernel
theorem dX4_dependsOn_6 : decode cX4_dependsOn 6 = .ok (.ifCond .ne 16, 3) := by decide +kernel
theorem dX4_dependsOn_9 : decode cX4_dependsOn 9 = .ok (.aload_n 0, 1) := by decide +kernel
theorem dX4_dependsOn_10 : decode cX4_dependsOn 10 = .ok (.iload_n 1, 1) := by decide +kernel
theorem dX4_dependsOn_11 : decode cX4_dependsOn 11 = .ok (.iload_n 2, 1) := by decide +kernel
theorem dX4_dependsOn_12 : decode cX4_dependsOn 12 = .ok (.invokevirtual 106, 3) := by decide +kernel
theorem dX4_dependsOn_15 : decode cX4_dependsOn 15 = .ok (.ifCond .eq 7, 3) := by decide +kernel
theorem dX4_dependsOn_18 : decode cX4_dependsOn 18 = .ok (.iconst 1, 1) := by decide +kernel
theorem dX4_dependsOn_19 : decode cX4_dependsOn 19 = .ok (.goto 4, 3) := by decide +kernel
theorem dX4_dependsOn_22 : decode cX4_dependsOn 22 = .ok (.iconst 0, 1) := by decide +kernel
theorem dX4_dependsOn_23 : decode cX4_dependsOn 23 = .ok (.ireturn, 1) := by decide +kernel
theorem dX4_dependsOnByClosure_0 : decode cX4_dependsOnByClosure 0 = .ok (.aload_n 0, 1) := by decide +kernel
theorem dX4_dependsOnByClosure_1 : decode cX4_dependsOnByClosure 1 = .ok (.iload_n 1, 1) := by decide +kernel
theorem dX4_dependsOnByClosure_2 : decode cX4_dependsOnByClosure 2 = .ok (.iload_n 2, 1) := by decide +kernel
theorem dX4_dependsOnByClosure_3 : decode cX4_dependsOnByClosure 3 = .ok (.invokevirtual 118, 3) := by decide +kernel
theorem dX4_dependsOnByClosure_6 : decode cX4_dependsOnByClosure 6 = .ok (.ifCond .ne 16, 3) := by decide +kernel
theorem dX4_dependsOnByClosure_9 : decode cX4_dependsOnByClosure 9 = .ok (.aload_n 0, 1) := by decide +kernel
theorem dX4_dependsOnByClosure_10 : decode cX4_dependsOnByClosure 10 = .ok (.iload_n 1, 1) := by decide +kernel
theorem dX4_dependsOnByClosure_11 : decode cX4_dependsOnByClosure 11 = .ok (.iload_n 2, 1) := by decide +kernel
theorem dX4_dependsOnByClosure_12 : decode cX4_dependsOnByClosure 12 = .ok (.invokevirtual 106, 3) := by decide +kernel
theorem dX4_dependsOnByClosure_15 : decode cX4_dependsOnByClosure 15 = .ok (.ifCond .eq 7, 3) := by decide +kernel
theorem dX4_dependsOnByClosure_18 : decode cX4_dependsOnByClosure 18 = .ok (.iconst 1, 1) := by decide +kernel
theorem dX4_dependsOnByClosure_19 : decode cX4_dependsOnByClosure 19 = .ok (.goto 4, 3) := by decide +kernel
theorem dX4_dependsOnByClosure_22 : decode cX4_dependsOnByClosure 22 = .ok (.iconst 0, 1) := by decide +kernel
theorem dX4_dependsOnByClosure_23 : decode cX4_dependsOnByClosure 23 = .ok (.ireturn, 1) := by decide +kernel
theorem dX4_chain_0 : decode cX4_chain 0 = .ok (.iconst 0, 1) := by decide +kernel
theorem dX4_chain_1 : decode cX4_chain 1 = .ok (.istore_n 1, 1) := by decide +kernel
theorem dX4_chain_2 : decode cX4_chain 2 = .ok (.iload_n 1, 1) := by decide +kernel
theorem dX4_chain_3 : decode cX4_chain 3 = .ok (.aload_n 0, 1) := by decide +kernel
theorem dX4_chain_4 : decode cX4_chain 4 = .ok (.getfield 7, 3) := by decide +kernel
theorem dX4_chain_7 : decode cX4_chain 7 = .ok (.iconst 0, 1) := by decide +kernel
theorem dX4_chain_8 : decode cX4_chain 8 = .ok (.iaload, 1) := by decide +kernel
theorem dX4_chain_9 : decode cX4_chain 9 = .ok (.if_icmp .ge 16, 3) := by decide +kernel
theorem dX4_chain_12 : decode cX4_chain 12 = .ok (.aload_n 0, 1) := by decide +kernel
theorem dX4_chain_13 : decode cX4_chain 13 = .ok (.getfield 36, 3) := by decide +kernel
theorem dX4_chain_16 : decode cX4_chain 16 = .ok (.iload_n 1, 1) := by decide +kernel
theorem dX4_chain_17 : decode cX4_chain 17 = .ok (.iconst 1, 1) := by decide +kernel
theorem dX4_chain_18 : decode cX4_chain 18 = .ok (.iastore, 1) := by decide +kernel
theorem dX4_chain_19 : decode cX4_chain 19 = .ok (.iinc 1 1, 3) := by decide +kernel
theorem dX4_chain_22 : decode cX4_chain 22 = .ok (.goto (-20), 3) := by decide +kernel
theorem dX4_chain_25 : decode cX4_chain 25 = .ok (.iconst 0, 1) := by decide +kernel
theorem dX4_chain_26 : decode cX4_chain 26 = .ok (.istore_n 1, 1) := by decide +kernel
theorem dX4_chain_27 : decode cX4_chain 27 = .ok (.iload_n 1, 1) := by decide +kernel
theorem dX4_chain_28 : decode cX4_chain 28 = .ok (.aload_n 0, 1) := by decide +kernel
theorem dX4_chain_29 : decode cX4_chain 29 = .ok (.getfield 7, 3) := by decide +kernel
theorem dX4_chain_32 : decode cX4_chain 32 = .ok (.iconst 0, 1) := by decide +kernel
theorem dX4_chain_33 : decode cX4_chain 33 = .ok (.iaload, 1) := by decide +kernel
theorem dX4_chain_34 : decode cX4_chain 34 = .ok (.if_icmp .ge 77, 3) := by decide +kernel
theorem dX4_chain_37 : decode cX4_chain 37 = .ok (.iconst 0, 1) := by decide +kernel
theorem dX4_chain_38 : decode cX4_chain 38 = .ok (.istore_n 2, 1) := by decide +kernel
theorem dX4_chain_39 : decode cX4_chain 39 = .ok (.iload_n 2, 1) := by decide +kernel
theorem dX4_chain_40 : decode cX4_chain 40 = .ok (.aload_n 0, 1) := by decide +kernel
theorem dX4_chain_41 : decode cX4_chain 41 = .ok (.getfield 7, 3) := by decide +kernel
theorem dX4_chain_44 : decode cX4_chain 44 = .ok (.iconst 0, 1) := by decide +kernel
theorem dX4_chain_45 : decode cX4_chain 45 = .ok (.iaload, 1) := by decide +kernel
theorem dX4_chain_46 : decode cX4_chain 46 = .ok (.if_icmp .ge 59, 3) := by decide +kernel
theorem dX4_chain_49 : decode cX4_chain 49 = .ok (.iconst 0, 1) := by decide +kernel
theorem dX4_chain_50 : decode cX4_chain 50 = .ok (.istore_n 3, 1) := by decide +kernel
theorem dX4_chain_51 : decode cX4_chain 51 = .ok (.iload_n 3, 1) := by decide +kernel
theorem dX4_chain_52 : decode cX4_chain 52 = .ok (.aload_n 0, 1) := by decide +kernel
theorem dX4_chain_53 : decode cX4_chain 53 = .ok (.getfield 7, 3) := by decide +kernel
theorem dX4_chain_56 : decode cX4_chain 56 = .ok (.iconst 0, 1) := by decide +kernel
theorem dX4_chain_57 : decode cX4_chain 57 = .ok (.iaload, 1) := by decide +kernel
theorem dX4_chain_58 : decode cX4_chain 58 = .ok (.if_icmp .ge 41, 3) := by decide +kernel
theorem dX4_chain_61 : decode cX4_chain 61 = .ok (.aload_n 0, 1) := by decide +kernel
theorem dX4_chain_62 : decode cX4_chain 62 = .ok (.iload_n 2, 1) := by decide +kernel
theorem dX4_chain_63 : decode cX4_chain 63 = .ok (.iload_n 3, 1) := by decide +kernel
theorem dX4_chain_64 : decode cX4_chain 64 = .ok (.invokevirtual 71, 3) := by decide +kernel
theorem dX4_chain_67 : decode cX4_chain 67 = .ok (.ifCond .eq 26, 3) := by decide +kernel
theorem dX4_chain_70 : decode cX4_chain 70 = .ok (.aload_n 0, 1) := by decide +kernel
theorem dX4_chain_71 : decode cX4_chain 71 = .ok (.getfield 36, 3) := by decide +kernel
theorem dX4_chain_74 : decode cX4_chain 74 = .ok (.iload_n 2, 1) := by decide +kernel
theorem dX4_chain_75 : decode cX4_chain 75 = .ok (.aload_n 0, 1) := by decide +kernel
theorem dX4_chain_76 : decode cX4_chain 76 = .ok (.getfield 36, 3) := by decide +kernel
theorem dX4_chain_79 : decode cX4_chain 79 = .ok (.iload_n 2, 1) := by decide +kernel
theorem dX4_chain_80 : decode cX4_chain 80 = .ok (.iaload, 1) := by decide +kernel
theorem dX4_chain_81 : decode cX4_chain 81 = .ok (.aload_n 0, 1) := by decide +kernel
theorem dX4_chain_82 : decode cX4_chain 82 = .ok (.getfield 36, 3) := by decide +kernel
theorem dX4_chain_85 : decode cX4_chain 85 = .ok (.iload_n 3, 1) := by decide +kernel
theorem dX4_chain_86 : decode cX4_chain 86 = .ok (.iaload, 1) := by decide +kernel
theorem dX4_chain_87 : decode cX4_chain 87 = .ok (.iconst 1, 1) := by decide +kernel
theorem dX4_chain_88 : decode cX4_chain 88 = .ok (.iadd, 1) := by decide +kernel
theorem dX4_chain_89 : decode cX4_chain 89 = .ok (.invokestatic 121, 3) := by decide +kernel
theorem dX4_chain_92 : decode cX4_chain 92 = .ok (.iastore, 1) := by decide +kernel
theorem dX4_chain_93 : decode cX4_chain 93 = .ok (.iinc 3 1, 3) := by decide +kernel
theorem dX4_chain_96 : decode cX4_chain 96 = .ok (.goto (-45), 3) := by decide +kernel
theorem dX4_chain_99 : decode cX4_chain 99 = .ok (.iinc 2 1, 3) := by decide +kernel
theorem dX4_chain_102 : decode cX4_chain 102 = .ok (.goto (-63), 3) := by decide +kernel
theorem dX4_chain_105 : decode cX4_chain 105 = .ok (.iinc 1 1, 3) := by decide +kernel
theorem dX4_chain_108 : decode cX4_chain 108 = .ok (.goto (-81), 3) := by decide +kernel
theorem dX4_chain_111 : decode cX4_chain 111 = .ok (.return_, 1) := by decide +kernel
theorem dX4_longestChain_0 : decode cX4_longestChain 0 = .ok (.aload_n 0, 1) := by decide +kernel
theorem dX4_longestChain_1 : decode cX4_longestChain 1 = .ok (.iload_n 1, 1) := by decide +kernel
theorem dX4_longestChain_2 : decode cX4_longestChain 2 = .ok (.invokevirtual 112, 3) := by decide +kernel
theorem dX4_longestChain_5 : decode cX4_longestChain 5 = .ok (.ifCond .eq 5, 3) := by decide +kernel
theorem dX4_longestChain_8 : decode cX4_longestChain 8 = .ok (.iconst 0, 1) := by decide +kernel
theorem dX4_longestChain_9 : decode cX4_longestChain 9 = .ok (.ireturn, 1) := by decide +kernel
theorem dX4_longestChain_10 : decode cX4_longestChain 10 = .ok (.aload_n 0, 1) := by decide +kernel
theorem dX4_longestChain_11 : decode cX4_longestChain 11 = .ok (.invokevirtual 124, 3) := by decide +kernel
theorem dX4_longestChain_14 : decode cX4_longestChain 14 = .ok (.aload_n 0, 1) := by decide +kernel
theorem dX4_longestChain_15 : decode cX4_longestChain 15 = .ok (.getfield 36, 3) := by decide +kernel
theorem dX4_longestChain_18 : decode cX4_longestChain 18 = .ok (.iload_n 1, 1) := by decide +kernel
theorem dX4_longestChain_19 : decode cX4_longestChain 19 = .ok (.iaload, 1) := by decide +kernel
theorem dX4_longestChain_20 : decode cX4_longestChain 20 = .ok (.ireturn, 1) := by decide +kernel
theorem dX4_storyInOrder_0 : decode cX4_storyInOrder 0 = .ok (.aload_n 0, 1) := by decide +kernel
theorem dX4_storyInOrder_1 : decode cX4_storyInOrder 1 = .ok (.aload_n 0, 1) := by decide +kernel
theorem dX4_storyInOrder_2 : decode cX4_storyInOrder 2 = .ok (.iload_n 1, 1) := by decide +kernel
theorem dX4_storyInOrder_3 : decode cX4_storyInOrder 3 = .ok (.invokevirtual 63, 3) := by decide +kernel
theorem dX4_storyInOrder_6 : decode cX4_storyInOrder 6 = .ok (.ifCond .eq 7, 3) := by decide +kernel
theorem dX4_storyInOrder_9 : decode cX4_storyInOrder 9 = .ok (.iconst 0, 1) := by decide +kernel
theorem dX4_storyInOrder_10 : decode cX4_storyInOrder 10 = .ok (.goto 4, 3) := by decide +kernel
theorem dX4_storyInOrder_13 : decode cX4_storyInOrder 13 = .ok (.iconst 1, 1) := by decide +kernel
theorem dX4_storyInOrder_14 : decode cX4_storyInOrder 14 = .ok (.invokevirtual 89, 3) := by decide +kernel
theorem dX4_storyInOrder_17 : decode cX4_storyInOrder 17 = .ok (.ifCond .eq 5, 3) := by decide +kernel
theorem dX4_storyInOrder_20 : decode cX4_storyInOrder 20 = .ok (.iconst 0, 1) := by decide +kernel
theorem dX4_storyInOrder_21 : decode cX4_storyInOrder 21 = .ok (.ireturn, 1) := by decide +kernel
theorem dX4_storyInOrder_22 : decode cX4_storyInOrder 22 = .ok (.iconst 0, 1) := by decide +kernel
theorem dX4_storyInOrder_23 : decode cX4_storyInOrder 23 = .ok (.istore_n 2, 1) := by decide +kernel
theorem dX4_storyInOrder_24 : decode cX4_storyInOrder 24 = .ok (.iconst 0, 1) := by decide +kernel
theorem dX4_storyInOrder_25 : decode cX4_storyInOrder 25 = .ok (.istore_n 3, 1) := by decide +kernel
theorem dX4_storyInOrder_26 : decode cX4_storyInOrder 26 = .ok (.iconst 0, 1) := by decide +kernel
theorem dX4_storyInOrder_27 : decode cX4_storyInOrder 27 = .ok (.istore 4, 2) := by decide +kernel
theorem dX4_storyInOrder_29 : decode cX4_storyInOrder 29 = .ok (.iload 4, 2) := by decide +kernel
theorem dX4_storyInOrder_31 : decode cX4_storyInOrder 31 = .ok (.iload_n 1, 1) := by decide +kernel
theorem dX4_storyInOrder_32 : decode cX4_storyInOrder 32 = .ok (.if_icmp .gt 45, 3) := by decide +kernel
theorem dX4_storyInOrder_35 : decode cX4_storyInOrder 35 = .ok (.iconst 0, 1) := by decide +kernel
theorem dX4_storyInOrder_36 : decode cX4_storyInOrder 36 = .ok (.istore_n 3, 1) := by decide +kernel
theorem dX4_storyInOrder_37 : decode cX4_storyInOrder 37 = .ok (.iload_n 2, 1) := by decide +kernel
theorem dX4_storyInOrder_38 : decode cX4_storyInOrder 38 = .ok (.iload_n 3, 1) := by decide +kernel
theorem dX4_storyInOrder_39 : decode cX4_storyInOrder 39 = .ok (.ishr, 1) := by decide +kernel
theorem dX4_storyInOrder_40 : decode cX4_storyInOrder 40 = .ok (.iconst 1, 1) := by decide +kernel
theorem dX4_storyInOrder_41 : decode cX4_storyInOrder 41 = .ok (.iand, 1) := by decide +kernel
theorem dX4_storyInOrder_42 : decode cX4_storyInOrder 42 = .ok (.iconst 1, 1) := by decide +kernel
theorem dX4_storyInOrder_43 : decode cX4_storyInOrder 43 = .ok (.if_icmp .eq 16, 3) := by decide +kernel
theorem dX4_storyInOrder_46 : decode cX4_storyInOrder 46 = .ok (.aload_n 0, 1) := by decide +kernel
theorem dX4_storyInOrder_47 : decode cX4_storyInOrder 47 = .ok (.iload_n 3, 1) := by decide +kernel
theorem dX4_storyInOrder_48 : decode cX4_storyInOrder 48 = .ok (.iconst 4, 1) := by decide +kernel
theorem dX4_storyInOrder_49 : decode cX4_storyInOrder 49 = .ok (.invokevirtual 67, 3) := by decide +kernel
theorem dX4_storyInOrder_52 : decode cX4_storyInOrder 52 = .ok (.iload_n 2, 1) := by decide +kernel
theorem dX4_storyInOrder_53 : decode cX4_storyInOrder 53 = .ok (.iconst (-1), 1) := by decide +kernel
theorem dX4_storyInOrder_54 : decode cX4_storyInOrder 54 = .ok (.ixor, 1) := by decide +kernel
theorem dX4_storyInOrder_55 : decode cX4_storyInOrder 55 = .ok (.iand, 1) := by decide +kernel
theorem dX4_storyInOrder_56 : decode cX4_storyInOrder 56 = .ok (.ifCond .eq 9, 3) := by decide +kernel
theorem dX4_storyInOrder_59 : decode cX4_storyInOrder 59 = .ok (.iinc 3 1, 3) := by decide +kernel
theorem dX4_storyInOrder_62 : decode cX4_storyInOrder 62 = .ok (.goto (-25), 3) := by decide +kernel
theorem dX4_storyInOrder_65 : decode cX4_storyInOrder 65 = .ok (.iload_n 2, 1) := by decide +kernel
theorem dX4_storyInOrder_66 : decode cX4_storyInOrder 66 = .ok (.iconst 1, 1) := by decide +kernel
theorem dX4_storyInOrder_67 : decode cX4_storyInOrder 67 = .ok (.iload_n 3, 1) := by decide +kernel
theorem dX4_storyInOrder_68 : decode cX4_storyInOrder 68 = .ok (.ishl, 1) := by decide +kernel
theorem dX4_storyInOrder_69 : decode cX4_storyInOrder 69 = .ok (.ior, 1) := by decide +kernel
theorem dX4_storyInOrder_70 : decode cX4_storyInOrder 70 = .ok (.istore_n 2, 1) := by decide +kernel
theorem dX4_storyInOrder_71 : decode cX4_storyInOrder 71 = .ok (.iinc 4 1, 3) := by decide +kernel
theorem dX4_storyInOrder_74 : decode cX4_storyInOrder 74 = .ok (.goto (-45), 3) := by decide +kernel
theorem dX4_storyInOrder_77 : decode cX4_storyInOrder 77 = .ok (.iload_n 3, 1) := by decide +kernel
theorem dX4_storyInOrder_78 : decode cX4_storyInOrder 78 = .ok (.ireturn, 1) := by decide +kernel
theorem dX4_isPerson_0 : decode cX4_isPerson 0 = .ok (.iload_n 1, 1) := by decide +kernel
theorem dX4_isPerson_1 : decode cX4_isPerson 1 = .ok (.iconst 0, 1) := by decide +kernel
theorem dX4_isPerson_2 : decode cX4_isPerson 2 = .ok (.aload_n 0, 1) := by decide +kernel
theorem dX4_isPerson_3 : decode cX4_isPerson 3 = .ok (.getfield 7, 3) := by decide +kernel
theorem dX4_isPerson_6 : decode cX4_isPerson 6 = .ok (.iconst 1, 1) := by decide +kernel
theorem dX4_isPerson_7 : decode cX4_isPerson 7 = .ok (.iaload, 1) := by decide +kernel
theorem dX4_isPerson_8 : decode cX4_isPerson 8 = .ok (.iconst 1, 1) := by decide +kernel
theorem dX4_isPerson_9 : decode cX4_isPerson 9 = .ok (.isub, 1) := by decide +kernel
theorem dX4_isPerson_10 : decode cX4_isPerson 10 = .ok (.invokestatic 59, 3) := by decide +kernel
theorem dX4_isPerson_13 : decode cX4_isPerson 13 = .ok (.ireturn, 1) := by decide +kernel
theorem dX4_by_0 : decode cX4_by 0 = .ok (.aload_n 0, 1) := by decide +kernel
theorem dX4_by_1 : decode cX4_by 1 = .ok (.getfield 7, 3) := by decide +kernel
theorem dX4_by_4 : decode cX4_by 4 = .ok (.bipush 87, 2) := by decide +kernel
theorem dX4_by_6 : decode cX4_by 6 = .ok (.iconst 2, 1) := by decide +kernel
theorem dX4_by_7 : decode cX4_by 7 = .ok (.iload_n 1, 1) := by decide +kernel
theorem dX4_by_8 : decode cX4_by 8 = .ok (.imul, 1) := by decide +kernel
theorem dX4_by_9 : decode cX4_by 9 = .ok (.iadd, 1) := by decide +kernel
theorem dX4_by_10 : decode cX4_by 10 = .ok (.iload_n 2, 1) := by decide +kernel
theorem dX4_by_11 : decode cX4_by 11 = .ok (.iadd, 1) := by decide +kernel
theorem dX4_by_12 : decode cX4_by 12 = .ok (.iaload, 1) := by decide +kernel
theorem dX4_by_13 : decode cX4_by 13 = .ok (.ireturn, 1) := by decide +kernel
theorem dX4_addDeveloper_0 : decode cX4_addDeveloper 0 = .ok (.aload_n 0, 1) := by decide +kernel
theorem dX4_addDeveloper_1 : decode cX4_addDeveloper 1 = .ok (.iload_n 1, 1) := by decide +kernel
theorem dX4_addDeveloper_2 : decode cX4_addDeveloper 2 = .ok (.iconst 1, 1) := by decide +kernel
theorem dX4_addDeveloper_3 : decode cX4_addDeveloper 3 = .ok (.iconst 4, 1) := by decide +kernel
theorem dX4_addDeveloper_4 : decode cX4_addDeveloper 4 = .ok (.invokestatic 59, 3) := by decide +kernel
theorem dX4_addDeveloper_7 : decode cX4_addDeveloper 7 = .ok (.ifCond .ne 7, 3) := by decide +kernel
theorem dX4_addDeveloper_10 : decode cX4_addDeveloper 10 = .ok (.iconst 1, 1) := by decide +kernel
theorem dX4_addDeveloper_11 : decode cX4_addDeveloper 11 = .ok (.goto 18, 3) := by decide +kernel
theorem dX4_addDeveloper_14 : decode cX4_addDeveloper 14 = .ok (.aload_n 0, 1) := by decide +kernel
theorem dX4_addDeveloper_15 : decode cX4_addDeveloper 15 = .ok (.getfield 7, 3) := by decide +kernel
theorem dX4_addDeveloper_18 : decode cX4_addDeveloper 18 = .ok (.iconst 1, 1) := by decide +kernel
theorem dX4_addDeveloper_19 : decode cX4_addDeveloper 19 = .ok (.iaload, 1) := by decide +kernel
theorem dX4_addDeveloper_20 : decode cX4_addDeveloper 20 = .ok (.iconst 4, 1) := by decide +kernel
theorem dX4_addDeveloper_21 : decode cX4_addDeveloper 21 = .ok (.if_icmp .ne 7, 3) := by decide +kernel
theorem dX4_addDeveloper_24 : decode cX4_addDeveloper 24 = .ok (.iconst 2, 1) := by decide +kernel
theorem dX4_addDeveloper_25 : decode cX4_addDeveloper 25 = .ok (.goto 4, 3) := by decide +kernel
theorem dX4_addDeveloper_28 : decode cX4_addDeveloper 28 = .ok (.iconst 0, 1) := by decide +kernel
theorem dX4_addDeveloper_29 : decode cX4_addDeveloper 29 = .ok (.invokevirtual 89, 3) := by decide +kernel
theorem dX4_addDeveloper_32 : decode cX4_addDeveloper 32 = .ok (.ifCond .eq 5, 3) := by decide +kernel
theorem dX4_addDeveloper_35 : decode cX4_addDeveloper 35 = .ok (.iconst 0, 1) := by decide +kernel
theorem dX4_addDeveloper_36 : decode cX4_addDeveloper 36 = .ok (.ireturn, 1) := by decide +kernel
theorem dX4_addDeveloper_37 : decode cX4_addDeveloper 37 = .ok (.aload_n 0, 1) := by decide +kernel
theorem dX4_addDeveloper_38 : decode cX4_addDeveloper 38 = .ok (.aload_n 0, 1) := by decide +kernel
theorem dX4_addDeveloper_39 : decode cX4_addDeveloper 39 = .ok (.getfield 7, 3) := by decide +kernel
theorem dX4_addDeveloper_42 : decode cX4_addDeveloper 42 = .ok (.invokevirtual 92, 3) := by decide +kernel
theorem dX4_addDeveloper_45 : decode cX4_addDeveloper 45 = .ok (.aload_n 0, 1) := by decide +kernel
theorem dX4_addDeveloper_46 : decode cX4_addDeveloper 46 = .ok (.getfield 7, 3) := by decide +kernel
theorem dX4_addDeveloper_49 : decode cX4_addDeveloper 49 = .ok (.iconst 1, 1) := by decide +kernel
theorem dX4_addDeveloper_50 : decode cX4_addDeveloper 50 = .ok (.iaload, 1) := by decide +kernel
theorem dX4_addDeveloper_51 : decode cX4_addDeveloper 51 = .ok (.istore_n 2, 1) := by decide +kernel
theorem dX4_addDeveloper_52 : decode cX4_addDeveloper 52 = .ok (.aload_n 0, 1) := by decide +kernel
theorem dX4_addDeveloper_53 : decode cX4_addDeveloper 53 = .ok (.getfield 7, 3) := by decide +kernel
theorem dX4_addDeveloper_56 : decode cX4_addDeveloper 56 = .ok (.iconst 1, 1) := by decide +kernel
theorem dX4_addDeveloper_57 : decode cX4_addDeveloper 57 = .ok (.dup2, 1) := by decide +kernel
theorem dX4_addDeveloper_58 : decode cX4_addDeveloper 58 = .ok (.iaload, 1) := by decide +kernel
theorem dX4_addDeveloper_59 : decode cX4_addDeveloper 59 = .ok (.iconst 1, 1) := by decide +kernel
theorem dX4_addDeveloper_60 : decode cX4_addDeveloper 60 = .ok (.iadd, 1) := by decide +kernel
theorem dX4_addDeveloper_61 : decode cX4_addDeveloper 61 = .ok (.iastore, 1) := by decide +kernel
theorem dX4_addDeveloper_62 : decode cX4_addDeveloper 62 = .ok (.aload_n 0, 1) := by decide +kernel
theorem dX4_addDeveloper_63 : decode cX4_addDeveloper 63 = .ok (.getfield 7, 3) := by decide +kernel
theorem dX4_addDeveloper_66 : decode cX4_addDeveloper 66 = .ok (.bipush 87, 2) := by decide +kernel
theorem dX4_addDeveloper_68 : decode cX4_addDeveloper 68 = .ok (.iconst 2, 1) := by decide +kernel
theorem dX4_addDeveloper_69 : decode cX4_addDeveloper 69 = .ok (.iload_n 2, 1) := by decide +kernel
theorem dX4_addDeveloper_70 : decode cX4_addDeveloper 70 = .ok (.imul, 1) := by decide +kernel
theorem dX4_addDeveloper_71 : decode cX4_addDeveloper 71 = .ok (.iadd, 1) := by decide +kernel
theorem dX4_addDeveloper_72 : decode cX4_addDeveloper 72 = .ok (.iconst 0, 1) := by decide +kernel
theorem dX4_addDeveloper_73 : decode cX4_addDeveloper 73 = .ok (.iadd, 1) := by decide +kernel
theorem dX4_addDeveloper_74 : decode cX4_addDeveloper 74 = .ok (.iload_n 1, 1) := by decide +kernel
theorem dX4_addDeveloper_75 : decode cX4_addDeveloper 75 = .ok (.iastore, 1) := by decide +kernel
theorem dX4_addDeveloper_76 : decode cX4_addDeveloper 76 = .ok (.aload_n 0, 1) := by decide +kernel
theorem dX4_addDeveloper_77 : decode cX4_addDeveloper 77 = .ok (.getfield 7, 3) := by decide +kernel
theorem dX4_addDeveloper_80 : decode cX4_addDeveloper 80 = .ok (.bipush 87, 2) := by decide +kernel
theorem dX4_addDeveloper_82 : decode cX4_addDeveloper 82 = .ok (.iconst 2, 1) := by decide +kernel
theorem dX4_addDeveloper_83 : decode cX4_addDeveloper 83 = .ok (.iload_n 2, 1) := by decide +kernel
theorem dX4_addDeveloper_84 : decode cX4_addDeveloper 84 = .ok (.imul, 1) := by decide +kernel
theorem dX4_addDeveloper_85 : decode cX4_addDeveloper 85 = .ok (.iadd, 1) := by decide +kernel
theorem dX4_addDeveloper_86 : decode cX4_addDeveloper 86 = .ok (.iconst 1, 1) := by decide +kernel
theorem dX4_addDeveloper_87 : decode cX4_addDeveloper 87 = .ok (.iadd, 1) := by decide +kernel
theorem dX4_addDeveloper_88 : decode cX4_addDeveloper 88 = .ok (.iconst (-1), 1) := by decide +kernel
theorem dX4_addDeveloper_89 : decode cX4_addDeveloper 89 = .ok (.iastore, 1) := by decide +kernel
theorem dX4_addDeveloper_90 : decode cX4_addDeveloper 90 = .ok (.iload_n 2, 1) := by decide +kernel
theorem dX4_addDeveloper_91 : decode cX4_addDeveloper 91 = .ok (.ireturn, 1) := by decide +kernel
theorem dX4_assign_0 : decode cX4_assign 0 = .ok (.aload_n 0, 1) := by decide +kernel
theorem dX4_assign_1 : decode cX4_assign 1 = .ok (.aload_n 0, 1) := by decide +kernel
theorem dX4_assign_2 : decode cX4_assign 2 = .ok (.iload_n 1, 1) := by decide +kernel
theorem dX4_assign_3 : decode cX4_assign 3 = .ok (.invokevirtual 63, 3) := by decide +kernel
theorem dX4_assign_6 : decode cX4_assign 6 = .ok (.ifCond .eq 11, 3) := by decide +kernel
theorem dX4_assign_9 : decode cX4_assign 9 = .ok (.aload_n 0, 1) := by decide +kernel
theorem dX4_assign_10 : decode cX4_assign 10 = .ok (.iload_n 2, 1) := by decide +kernel
theorem dX4_assign_11 : decode cX4_assign 11 = .ok (.invokevirtual 127, 3) := by decide +kernel
theorem dX4_assign_14 : decode cX4_assign 14 = .ok (.ifCond .ne 7, 3) := by decide +kernel
theorem dX4_assign_17 : decode cX4_assign 17 = .ok (.iconst 1, 1) := by decide +kernel
theorem dX4_assign_18 : decode cX4_assign 18 = .ok (.goto 17, 3) := by decide +kernel
theorem dX4_assign_21 : decode cX4_assign 21 = .ok (.aload_n 0, 1) := by decide +kernel
theorem dX4_assign_22 : decode cX4_assign 22 = .ok (.getfield 7, 3) := by decide +kernel
theorem dX4_assign_25 : decode cX4_assign 25 = .ok (.iconst 2, 1) := by decide +kernel
theorem dX4_assign_26 : decode cX4_assign 26 = .ok (.iaload, 1) := by decide +kernel
theorem dX4_assign_27 : decode cX4_assign 27 = .ok (.ifCond .ne 7, 3) := by decide +kernel
theorem dX4_assign_30 : decode cX4_assign 30 = .ok (.iconst 2, 1) := by decide +kernel
theorem dX4_assign_31 : decode cX4_assign 31 = .ok (.goto 4, 3) := by decide +kernel
theorem dX4_assign_34 : decode cX4_assign 34 = .ok (.iconst 0, 1) := by decide +kernel
theorem dX4_assign_35 : decode cX4_assign 35 = .ok (.invokevirtual 89, 3) := by decide +kernel
theorem dX4_assign_38 : decode cX4_assign 38 = .ok (.ifCond .eq 5, 3) := by decide +kernel
theorem dX4_assign_41 : decode cX4_assign 41 = .ok (.iconst 0, 1) := by decide +kernel
theorem dX4_assign_42 : decode cX4_assign 42 = .ok (.ireturn, 1) := by decide +kernel
theorem dX4_assign_43 : decode cX4_assign 43 = .ok (.aload_n 0, 1) := by decide +kernel
theorem dX4_assign_44 : decode cX4_assign 44 = .ok (.aload_n 0, 1) := by decide +kernel
theorem dX4_assign_45 : decode cX4_assign 45 = .ok (.iload_n 1, 1) := by decide +kernel
theorem dX4_assign_46 : decode cX4_assign 46 = .ok (.iconst 2, 1) := by decide +kernel
theorem dX4_assign_47 : decode cX4_assign 47 = .ok (.invokevirtual 67, 3) := by decide +kernel
theorem dX4_assign_50 : decode cX4_assign 50 = .ok (.ifCond .eq 29, 3) := by decide +kernel
theorem dX4_assign_53 : decode cX4_assign 53 = .ok (.aload_n 0, 1) := by decide +kernel
theorem dX4_assign_54 : decode cX4_assign 54 = .ok (.iload_n 1, 1) := by decide +kernel
theorem dX4_assign_55 : decode cX4_assign 55 = .ok (.invokevirtual 75, 3) := by decide +kernel
theorem dX4_assign_58 : decode cX4_assign 58 = .ok (.ifCond .ne 21, 3) := by decide +kernel
theorem dX4_assign_61 : decode cX4_assign 61 = .ok (.aload_n 0, 1) := by decide +kernel
theorem dX4_assign_62 : decode cX4_assign 62 = .ok (.iload_n 1, 1) := by decide +kernel
theorem dX4_assign_63 : decode cX4_assign 63 = .ok (.iconst 3, 1) := by decide +kernel
theorem dX4_assign_64 : decode cX4_assign 64 = .ok (.invokevirtual 67, 3) := by decide +kernel
theorem dX4_assign_67 : decode cX4_assign 67 = .ok (.ifCond .ge 12, 3) := by decide +kernel
theorem dX4_assign_70 : decode cX4_assign 70 = .ok (.aload_n 0, 1) := by decide +kernel
theorem dX4_assign_71 : decode cX4_assign 71 = .ok (.iload_n 2, 1) := by decide +kernel
theorem dX4_assign_72 : decode cX4_assign 72 = .ok (.iconst 1, 1) := by decide +kernel
theorem dX4_assign_73 : decode cX4_assign 73 = .ok (.invokevirtual 130, 3) := by decide +kernel
theorem dX4_assign_76 : decode cX4_assign 76 = .ok (.ifCond .lt 7, 3) := by decide +kernel
theorem dX4_assign_79 : decode cX4_assign 79 = .ok (.iconst 3, 1) := by decide +kernel
theorem dX4_assign_80 : decode cX4_assign 80 = .ok (.goto 4, 3) := by decide +kernel
theorem dX4_assign_83 : decode cX4_assign 83 = .ok (.iconst 0, 1) := by decide +kernel
theorem dX4_assign_84 : decode cX4_assign 84 = .ok (.invokevirtual 89, 3) := by decide +kernel
theorem dX4_assign_87 : decode cX4_assign 87 = .ok (.ifCond .eq 5, 3) := by decide +kernel
theorem dX4_assign_90 : decode cX4_assign 90 = .ok (.iconst 0, 1) := by decide +kernel
theorem dX4_assign_91 : decode cX4_assign 91 = .ok (.ireturn, 1) := by decide +kernel
theorem dX4_assign_92 : decode cX4_assign 92 = .ok (.aload_n 0, 1) := by decide +kernel
theorem dX4_assign_93 : decode cX4_assign 93 = .ok (.aload_n 0, 1) := by decide +kernel
theorem dX4_assign_94 : decode cX4_assign 94 = .ok (.getfield 7, 3) := by decide +kernel
theorem dX4_assign_97 : decode cX4_assign 97 = .ok (.invokevirtual 92, 3) := by decide +kernel
theorem dX4_assign_100 : decode cX4_assign 100 = .ok (.aload_n 0, 1) := by decide +kernel
theorem dX4_assign_101 : decode cX4_assign 101 = .ok (.iload_n 1, 1) := by decide +kernel
theorem dX4_assign_102 : decode cX4_assign 102 = .ok (.iconst 3, 1) := by decide +kernel
theorem dX4_assign_103 : decode cX4_assign 103 = .ok (.iload_n 2, 1) := by decide +kernel
theorem dX4_assign_104 : decode cX4_assign 104 = .ok (.invokevirtual 82, 3) := by decide +kernel
theorem dX4_assign_107 : decode cX4_assign 107 = .ok (.aload_n 0, 1) := by decide +kernel
theorem dX4_assign_108 : decode cX4_assign 108 = .ok (.getfield 7, 3) := by decide +kernel
theorem dX4_assign_111 : decode cX4_assign 111 = .ok (.bipush 87, 2) := by decide +kernel
theorem dX4_assign_113 : decode cX4_assign 113 = .ok (.iconst 2, 1) := by decide +kernel
theorem dX4_assign_114 : decode cX4_assign 114 = .ok (.iload_n 2, 1) := by decide +kernel
theorem dX4_assign_115 : decode cX4_assign 115 = .ok (.imul, 1) := by decide +kernel
theorem dX4_assign_116 : decode cX4_assign 116 = .ok (.iadd, 1) := by decide +kernel
theorem dX4_assign_117 : decode cX4_assign 117 = .ok (.iconst 1, 1) := by decide +kernel
theorem dX4_assign_118 : decode cX4_assign 118 = .ok (.iadd, 1) := by decide +kernel
theorem dX4_assign_119 : decode cX4_assign 119 = .ok (.iload_n 1, 1) := by decide +kernel
theorem dX4_assign_120 : decode cX4_assign 120 = .ok (.iastore, 1) := by decide +kernel
theorem dX4_assign_121 : decode cX4_assign 121 = .ok (.aload_n 0, 1) := by decide +kernel
theorem dX4_assign_122 : decode cX4_assign 122 = .ok (.iload_n 1, 1) := by decide +kernel
theorem dX4_assign_123 : decode cX4_assign 123 = .ok (.invokevirtual 115, 3) := by decide +kernel
theorem dX4_assign_126 : decode cX4_assign 126 = .ok (.ifCond .le 7, 3) := by decide +kernel
theorem dX4_assign_129 : decode cX4_assign 129 = .ok (.iconst 1, 1) := by decide +kernel
theorem dX4_assign_130 : decode cX4_assign 130 = .ok (.goto 4, 3) := by decide +kernel
theorem dX4_assign_133 : decode cX4_assign 133 = .ok (.iconst 0, 1) := by decide +kernel
theorem dX4_assign_134 : decode cX4_assign 134 = .ok (.ireturn, 1) := by decide +kernel
theorem dX4_unassign_0 : decode cX4_unassign 0 = .ok (.aload_n 0, 1) := by decide +kernel
theorem dX4_unassign_1 : decode cX4_unassign 1 = .ok (.aload_n 0, 1) := by decide +kernel
theorem dX4_unassign_2 : decode cX4_unassign 2 = .ok (.iload_n 1, 1) := by decide +kernel
theorem dX4_unassign_3 : decode cX4_unassign 3 = .ok (.invokevirtual 127, 3) := by decide +kernel
theorem dX4_unassign_6 : decode cX4_unassign 6 = .ok (.ifCond .ne 7, 3) := by decide +kernel
theorem dX4_unassign_9 : decode cX4_unassign 9 = .ok (.iconst 1, 1) := by decide +kernel
theorem dX4_unassign_10 : decode cX4_unassign 10 = .ok (.goto 17, 3) := by decide +kernel
theorem dX4_unassign_13 : decode cX4_unassign 13 = .ok (.aload_n 0, 1) := by decide +kernel
theorem dX4_unassign_14 : decode cX4_unassign 14 = .ok (.iload_n 1, 1) := by decide +kernel
theorem dX4_unassign_15 : decode cX4_unassign 15 = .ok (.iconst 1, 1) := by decide +kernel
theorem dX4_unassign_16 : decode cX4_unassign 16 = .ok (.invokevirtual 130, 3) := by decide +kernel
theorem dX4_unassign_19 : decode cX4_unassign 19 = .ok (.ifCond .ge 7, 3) := by decide +kernel
theorem dX4_unassign_22 : decode cX4_unassign 22 = .ok (.iconst 2, 1) := by decide +kernel
theorem dX4_unassign_23 : decode cX4_unassign 23 = .ok (.goto 4, 3) := by decide +kernel
theorem dX4_unassign_26 : decode cX4_unassign 26 = .ok (.iconst 0, 1) := by decide +kernel
theorem dX4_unassign_27 : decode cX4_unassign 27 = .ok (.invokevirtual 89, 3) := by decide +kernel
theorem dX4_unassign_30 : decode cX4_unassign 30 = .ok (.ifCond .eq 5, 3) := by decide +kernel
theorem dX4_unassign_33 : decode cX4_unassign 33 = .ok (.iconst 0, 1) := by decide +kernel
theorem dX4_unassign_34 : decode cX4_unassign 34 = .ok (.ireturn, 1) := by decide +kernel
theorem dX4_unassign_35 : decode cX4_unassign 35 = .ok (.aload_n 0, 1) := by decide +kernel
theorem dX4_unassign_36 : decode cX4_unassign 36 = .ok (.iload_n 1, 1) := by decide +kernel
theorem dX4_unassign_37 : decode cX4_unassign 37 = .ok (.iconst 1, 1) := by decide +kernel
theorem dX4_unassign_38 : decode cX4_unassign 38 = .ok (.invokevirtual 130, 3) := by decide +kernel
theorem dX4_unassign_41 : decode cX4_unassign 41 = .ok (.istore_n 2, 1) := by decide +kernel
theorem dX4_unassign_42 : decode cX4_unassign 42 = .ok (.aload_n 0, 1) := by decide +kernel
theorem dX4_unassign_43 : decode cX4_unassign 43 = .ok (.aload_n 0, 1) := by decide +kernel
theorem dX4_unassign_44 : decode cX4_unassign 44 = .ok (.getfield 7, 3) := by decide +kernel
theorem dX4_unassign_47 : decode cX4_unassign 47 = .ok (.invokevirtual 92, 3) := by decide +kernel
theorem dX4_unassign_50 : decode cX4_unassign 50 = .ok (.aload_n 0, 1) := by decide +kernel
theorem dX4_unassign_51 : decode cX4_unassign 51 = .ok (.iload_n 1, 1) := by decide +kernel
theorem dX4_unassign_52 : decode cX4_unassign 52 = .ok (.invokevirtual 99, 3) := by decide +kernel
theorem dX4_unassign_55 : decode cX4_unassign 55 = .ok (.iload_n 2, 1) := by decide +kernel
theorem dX4_unassign_56 : decode cX4_unassign 56 = .ok (.ireturn, 1) := by decide +kernel
theorem dX4_developerCount_0 : decode cX4_developerCount 0 = .ok (.aload_n 0, 1) := by decide +kernel
theorem dX4_developerCount_1 : decode cX4_developerCount 1 = .ok (.iconst 0, 1) := by decide +kernel
theorem dX4_developerCount_2 : decode cX4_developerCount 2 = .ok (.putfield 45, 3) := by decide +kernel
theorem dX4_developerCount_5 : decode cX4_developerCount 5 = .ok (.aload_n 0, 1) := by decide +kernel
theorem dX4_developerCount_6 : decode cX4_developerCount 6 = .ok (.getfield 7, 3) := by decide +kernel
theorem dX4_developerCount_9 : decode cX4_developerCount 9 = .ok (.iconst 1, 1) := by decide +kernel
theorem dX4_developerCount_10 : decode cX4_developerCount 10 = .ok (.iaload, 1) := by decide +kernel
theorem dX4_developerCount_11 : decode cX4_developerCount 11 = .ok (.ireturn, 1) := by decide +kernel
theorem dX4_speedOf_0 : decode cX4_speedOf 0 = .ok (.aload_n 0, 1) := by decide +kernel
theorem dX4_speedOf_1 : decode cX4_speedOf 1 = .ok (.aload_n 0, 1) := by decide +kernel
theorem dX4_speedOf_2 : decode cX4_speedOf 2 = .ok (.iload_n 1, 1) := by decide +kernel
theorem dX4_speedOf_3 : decode cX4_speedOf 3 = .ok (.invokevirtual 127, 3) := by decide +kernel
theorem dX4_speedOf_6 : decode cX4_speedOf 6 = .ok (.ifCond .eq 7, 3) := by decide +kernel
theorem dX4_speedOf_9 : decode cX4_speedOf 9 = .ok (.iconst 0, 1) := by decide +kernel
theorem dX4_speedOf_10 : decode cX4_speedOf 10 = .ok (.goto 4, 3) := by decide +kernel
theorem dX4_speedOf_13 : decode cX4_speedOf 13 = .ok (.iconst 1, 1) := by decide +kernel
theorem dX4_speedOf_14 : decode cX4_speedOf 14 = .ok (.invokevirtual 89, 3) := by decide +kernel
theorem dX4_speedOf_17 : decode cX4_speedOf 17 = .ok (.ifCond .eq 7, 3) := by decide +kernel
theorem dX4_speedOf_20 : decode cX4_speedOf 20 = .ok (.iconst 0, 1) := by decide +kernel
theorem dX4_speedOf_21 : decode cX4_speedOf 21 = .ok (.goto 9, 3) := by decide +kernel
theorem dX4_speedOf_24 : decode cX4_speedOf 24 = .ok (.aload_n 0, 1) := by decide +kernel
theorem dX4_speedOf_25 : decode cX4_speedOf 25 = .ok (.iload_n 1, 1) := by decide +kernel
theorem dX4_speedOf_26 : decode cX4_speedOf 26 = .ok (.iconst 0, 1) := by decide +kernel
theorem dX4_speedOf_27 : decode cX4_speedOf 27 = .ok (.invokevirtual 130, 3) := by decide +kernel
theorem dX4_speedOf_30 : decode cX4_speedOf 30 = .ok (.ireturn, 1) := by decide +kernel
theorem dX4_storyOf_0 : decode cX4_storyOf 0 = .ok (.aload_n 0, 1) := by decide +kernel
theorem dX4_storyOf_1 : decode cX4_storyOf 1 = .ok (.aload_n 0, 1) := by decide +kernel
theorem dX4_storyOf_2 : decode cX4_storyOf 2 = .ok (.iload_n 1, 1) := by decide +kernel
theorem dX4_storyOf_3 : decode cX4_storyOf 3 = .ok (.invokevirtual 127, 3) := by decide +kernel
theorem dX4_storyOf_6 : decode cX4_storyOf 6 = .ok (.ifCond .ne 7, 3) := by decide +kernel
theorem dX4_storyOf_9 : decode cX4_storyOf 9 = .ok (.iconst 1, 1) := by decide +kernel
theorem dX4_storyOf_10 : decode cX4_storyOf 10 = .ok (.goto 17, 3) := by decide +kernel
theorem dX4_storyOf_13 : decode cX4_storyOf 13 = .ok (.aload_n 0, 1) := by decide +kernel
theorem dX4_storyOf_14 : decode cX4_storyOf 14 = .ok (.iload_n 1, 1) := by decide +kernel
theorem dX4_storyOf_15 : decode cX4_storyOf 15 = .ok (.iconst 1, 1) := by decide +kernel
theorem dX4_storyOf_16 : decode cX4_storyOf 16 = .ok (.invokevirtual 130, 3) := by decide +kernel
theorem dX4_storyOf_19 : decode cX4_storyOf 19 = .ok (.ifCond .ge 7, 3) := by decide +kernel
theorem dX4_storyOf_22 : decode cX4_storyOf 22 = .ok (.iconst 2, 1) := by decide +kernel
theorem dX4_storyOf_23 : decode cX4_storyOf 23 = .ok (.goto 4, 3) := by decide +kernel
theorem dX4_storyOf_26 : decode cX4_storyOf 26 = .ok (.iconst 0, 1) := by decide +kernel
theorem dX4_storyOf_27 : decode cX4_storyOf 27 = .ok (.invokevirtual 89, 3) := by decide +kernel
theorem dX4_storyOf_30 : decode cX4_storyOf 30 = .ok (.ifCond .eq 7, 3) := by decide +kernel
theorem dX4_storyOf_33 : decode cX4_storyOf 33 = .ok (.iconst 0, 1) := by decide +kernel
theorem dX4_storyOf_34 : decode cX4_storyOf 34 = .ok (.goto 9, 3) := by decide +kernel
theorem dX4_storyOf_37 : decode cX4_storyOf 37 = .ok (.aload_n 0, 1) := by decide +kernel
theorem dX4_storyOf_38 : decode cX4_storyOf 38 = .ok (.iload_n 1, 1) := by decide +kernel
theorem dX4_storyOf_39 : decode cX4_storyOf 39 = .ok (.iconst 1, 1) := by decide +kernel
theorem dX4_storyOf_40 : decode cX4_storyOf 40 = .ok (.invokevirtual 130, 3) := by decide +kernel
theorem dX4_storyOf_43 : decode cX4_storyOf 43 = .ok (.ireturn, 1) := by decide +kernel
theorem dX4_developerOf_0 : decode cX4_developerOf 0 = .ok (.aload_n 0, 1) := by decide +kernel
theorem dX4_developerOf_1 : decode cX4_developerOf 1 = .ok (.aload_n 0, 1) := by decide +kernel
theorem dX4_developerOf_2 : decode cX4_developerOf 2 = .ok (.iload_n 1, 1) := by decide +kernel
theorem dX4_developerOf_3 : decode cX4_developerOf 3 = .ok (.invokevirtual 63, 3) := by decide +kernel
theorem dX4_developerOf_6 : decode cX4_developerOf 6 = .ok (.ifCond .ne 7, 3) := by decide +kernel
theorem dX4_developerOf_9 : decode cX4_developerOf 9 = .ok (.iconst 1, 1) := by decide +kernel
theorem dX4_developerOf_10 : decode cX4_developerOf 10 = .ok (.goto 17, 3) := by decide +kernel
theorem dX4_developerOf_13 : decode cX4_developerOf 13 = .ok (.aload_n 0, 1) := by decide +kernel
theorem dX4_developerOf_14 : decode cX4_developerOf 14 = .ok (.iload_n 1, 1) := by decide +kernel
theorem dX4_developerOf_15 : decode cX4_developerOf 15 = .ok (.iconst 3, 1) := by decide +kernel
theorem dX4_developerOf_16 : decode cX4_developerOf 16 = .ok (.invokevirtual 67, 3) := by decide +kernel
theorem dX4_developerOf_19 : decode cX4_developerOf 19 = .ok (.ifCond .ge 7, 3) := by decide +kernel
theorem dX4_developerOf_22 : decode cX4_developerOf 22 = .ok (.iconst 2, 1) := by decide +kernel
theorem dX4_developerOf_23 : decode cX4_developerOf 23 = .ok (.goto 4, 3) := by decide +kernel
theorem dX4_developerOf_26 : decode cX4_developerOf 26 = .ok (.iconst 0, 1) := by decide +kernel
theorem dX4_developerOf_27 : decode cX4_developerOf 27 = .ok (.invokevirtual 89, 3) := by decide +kernel
theorem dX4_developerOf_30 : decode cX4_developerOf 30 = .ok (.ifCond .eq 7, 3) := by decide +kernel
theorem dX4_developerOf_33 : decode cX4_developerOf 33 = .ok (.iconst 0, 1) := by decide +kernel
theorem dX4_developerOf_34 : decode cX4_developerOf 34 = .ok (.goto 9, 3) := by decide +kernel
theorem dX4_developerOf_37 : decode cX4_developerOf 37 = .ok (.aload_n 0, 1) := by decide +kernel
theorem dX4_developerOf_38 : decode cX4_developerOf 38 = .ok (.iload_n 1, 1) := by decide +kernel
theorem dX4_developerOf_39 : decode cX4_developerOf 39 = .ok (.iconst 3, 1) := by decide +kernel
theorem dX4_developerOf_40 : decode cX4_developerOf 40 = .ok (.invokevirtual 67, 3) := by decide +kernel
theorem dX4_developerOf_43 : decode cX4_developerOf 43 = .ok (.ireturn, 1) := by decide +kernel
theorem dX4_planned_0 : decode cX4_planned 0 = .ok (.iconst 0, 1) := by decide +kernel
theorem dX4_planned_1 : decode cX4_planned 1 = .ok (.istore_n 2, 1) := by decide +kernel
theorem dX4_planned_2 : decode cX4_planned 2 = .ok (.iconst 0, 1) := by decide +kernel
theorem dX4_planned_3 : decode cX4_planned 3 = .ok (.istore_n 3, 1) := by decide +kernel
theorem dX4_planned_4 : decode cX4_planned 4 = .ok (.iload_n 3, 1) := by decide +kernel
theorem dX4_planned_5 : decode cX4_planned 5 = .ok (.aload_n 0, 1) := by decide +kernel
theorem dX4_planned_6 : decode cX4_planned 6 = .ok (.getfield 7, 3) := by decide +kernel
theorem dX4_planned_9 : decode cX4_planned 9 = .ok (.iconst 0, 1) := by decide +kernel
theorem dX4_planned_10 : decode cX4_planned 10 = .ok (.iaload, 1) := by decide +kernel
theorem dX4_planned_11 : decode cX4_planned 11 = .ok (.if_icmp .ge 32, 3) := by decide +kernel
theorem dX4_planned_14 : decode cX4_planned 14 = .ok (.iload_n 2, 1) := by decide +kernel
theorem dX4_planned_15 : decode cX4_planned 15 = .ok (.aload_n 0, 1) := by decide +kernel
theorem dX4_planned_16 : decode cX4_planned 16 = .ok (.iload_n 3, 1) := by decide +kernel
theorem dX4_planned_17 : decode cX4_planned 17 = .ok (.iconst 2, 1) := by decide +kernel
theorem dX4_planned_18 : decode cX4_planned 18 = .ok (.invokevirtual 67, 3) := by decide +kernel
theorem dX4_planned_21 : decode cX4_planned 21 = .ok (.iconst 1, 1) := by decide +kernel
theorem dX4_planned_22 : decode cX4_planned 22 = .ok (.if_icmp .ne 12, 3) := by decide +kernel
theorem dX4_planned_25 : decode cX4_planned 25 = .ok (.aload_n 0, 1) := by decide +kernel
theorem dX4_planned_26 : decode cX4_planned 26 = .ok (.iload_n 3, 1) := by decide +kernel
theorem dX4_planned_27 : decode cX4_planned 27 = .ok (.iload_n 1, 1) := by decide +kernel
theorem dX4_planned_28 : decode cX4_planned 28 = .ok (.invokevirtual 67, 3) := by decide +kernel
theorem dX4_planned_31 : decode cX4_planned 31 = .ok (.goto 4, 3) := by decide +kernel
theorem dX4_planned_34 : decode cX4_planned 34 = .ok (.iconst 0, 1) := by decide +kernel
theorem dX4_planned_35 : decode cX4_planned 35 = .ok (.iadd, 1) := by decide +kernel
theorem dX4_planned_36 : decode cX4_planned 36 = .ok (.istore_n 2, 1) := by decide +kernel
theorem dX4_planned_37 : decode cX4_planned 37 = .ok (.iinc 3 1, 3) := by decide +kernel
theorem dX4_planned_40 : decode cX4_planned 40 = .ok (.goto (-36), 3) := by decide +kernel
theorem dX4_planned_43 : decode cX4_planned 43 = .ok (.iload_n 2, 1) := by decide +kernel
theorem dX4_planned_44 : decode cX4_planned 44 = .ok (.ireturn, 1) := by decide +kernel
theorem dX4_plan_0 : decode cX4_plan 0 = .ok (.aload_n 0, 1) := by decide +kernel
theorem dX4_plan_1 : decode cX4_plan 1 = .ok (.aload_n 0, 1) := by decide +kernel
theorem dX4_plan_2 : decode cX4_plan 2 = .ok (.iload_n 1, 1) := by decide +kernel
theorem dX4_plan_3 : decode cX4_plan 3 = .ok (.invokevirtual 63, 3) := by decide +kernel
theorem dX4_plan_6 : decode cX4_plan 6 = .ok (.ifCond .ne 7, 3) := by decide +kernel
theorem dX4_plan_9 : decode cX4_plan 9 = .ok (.iconst 1, 1) := by decide +kernel
theorem dX4_plan_10 : decode cX4_plan 10 = .ok (.goto 26, 3) := by decide +kernel
theorem dX4_plan_13 : decode cX4_plan 13 = .ok (.aload_n 0, 1) := by decide +kernel
theorem dX4_plan_14 : decode cX4_plan 14 = .ok (.iload_n 1, 1) := by decide +kernel
theorem dX4_plan_15 : decode cX4_plan 15 = .ok (.iconst 2, 1) := by decide +kernel
theorem dX4_plan_16 : decode cX4_plan 16 = .ok (.invokevirtual 67, 3) := by decide +kernel
theorem dX4_plan_19 : decode cX4_plan 19 = .ok (.iconst 1, 1) := by decide +kernel
theorem dX4_plan_20 : decode cX4_plan 20 = .ok (.if_icmp .eq 11, 3) := by decide +kernel
theorem dX4_plan_23 : decode cX4_plan 23 = .ok (.aload_n 0, 1) := by decide +kernel
theorem dX4_plan_24 : decode cX4_plan 24 = .ok (.iload_n 1, 1) := by decide +kernel
theorem dX4_plan_25 : decode cX4_plan 25 = .ok (.invokevirtual 75, 3) := by decide +kernel
theorem dX4_plan_28 : decode cX4_plan 28 = .ok (.ifCond .eq 7, 3) := by decide +kernel
theorem dX4_plan_31 : decode cX4_plan 31 = .ok (.iconst 2, 1) := by decide +kernel
theorem dX4_plan_32 : decode cX4_plan 32 = .ok (.goto 4, 3) := by decide +kernel
theorem dX4_plan_35 : decode cX4_plan 35 = .ok (.iconst 0, 1) := by decide +kernel
theorem dX4_plan_36 : decode cX4_plan 36 = .ok (.invokevirtual 89, 3) := by decide +kernel
theorem dX4_plan_39 : decode cX4_plan 39 = .ok (.ifCond .eq 5, 3) := by decide +kernel
theorem dX4_plan_42 : decode cX4_plan 42 = .ok (.iconst 0, 1) := by decide +kernel
theorem dX4_plan_43 : decode cX4_plan 43 = .ok (.ireturn, 1) := by decide +kernel
theorem dX4_plan_44 : decode cX4_plan 44 = .ok (.aload_n 0, 1) := by decide +kernel
theorem dX4_plan_45 : decode cX4_plan 45 = .ok (.aload_n 0, 1) := by decide +kernel
theorem dX4_plan_46 : decode cX4_plan 46 = .ok (.getfield 7, 3) := by decide +kernel
theorem dX4_plan_49 : decode cX4_plan 49 = .ok (.invokevirtual 92, 3) := by decide +kernel
theorem dX4_plan_52 : decode cX4_plan 52 = .ok (.aload_n 0, 1) := by decide +kernel
theorem dX4_plan_53 : decode cX4_plan 53 = .ok (.iload_n 1, 1) := by decide +kernel
theorem dX4_plan_54 : decode cX4_plan 54 = .ok (.iconst 2, 1) := by decide +kernel
theorem dX4_plan_55 : decode cX4_plan 55 = .ok (.iconst 1, 1) := by decide +kernel
theorem dX4_plan_56 : decode cX4_plan 56 = .ok (.invokevirtual 82, 3) := by decide +kernel
theorem dX4_plan_59 : decode cX4_plan 59 = .ok (.aload_n 0, 1) := by decide +kernel
theorem dX4_plan_60 : decode cX4_plan 60 = .ok (.iconst 0, 1) := by decide +kernel
theorem dX4_plan_61 : decode cX4_plan 61 = .ok (.invokevirtual 133, 3) := by decide +kernel
theorem dX4_plan_64 : decode cX4_plan 64 = .ok (.ireturn, 1) := by decide +kernel
theorem dX4_unplan_0 : decode cX4_unplan 0 = .ok (.aload_n 0, 1) := by decide +kernel
theorem dX4_unplan_1 : decode cX4_unplan 1 = .ok (.aload_n 0, 1) := by decide +kernel
theorem dX4_unplan_2 : decode cX4_unplan 2 = .ok (.iload_n 1, 1) := by decide +kernel
theorem dX4_unplan_3 : decode cX4_unplan 3 = .ok (.invokevirtual 63, 3) := by decide +kernel
theorem dX4_unplan_6 : decode cX4_unplan 6 = .ok (.ifCond .ne 7, 3) := by decide +kernel
theorem dX4_unplan_9 : decode cX4_unplan 9 = .ok (.iconst 1, 1) := by decide +kernel
theorem dX4_unplan_10 : decode cX4_unplan 10 = .ok (.goto 26, 3) := by decide +kernel
theorem dX4_unplan_13 : decode cX4_unplan 13 = .ok (.aload_n 0, 1) := by decide +kernel
theorem dX4_unplan_14 : decode cX4_unplan 14 = .ok (.iload_n 1, 1) := by decide +kernel
theorem dX4_unplan_15 : decode cX4_unplan 15 = .ok (.iconst 2, 1) := by decide +kernel
theorem dX4_unplan_16 : decode cX4_unplan 16 = .ok (.invokevirtual 67, 3) := by decide +kernel
theorem dX4_unplan_19 : decode cX4_unplan 19 = .ok (.ifCond .eq 12, 3) := by decide +kernel
theorem dX4_unplan_22 : decode cX4_unplan 22 = .ok (.aload_n 0, 1) := by decide +kernel
theorem dX4_unplan_23 : decode cX4_unplan 23 = .ok (.iload_n 1, 1) := by decide +kernel
theorem dX4_unplan_24 : decode cX4_unplan 24 = .ok (.iconst 3, 1) := by decide +kernel
theorem dX4_unplan_25 : decode cX4_unplan 25 = .ok (.invokevirtual 67, 3) := by decide +kernel
theorem dX4_unplan_28 : decode cX4_unplan 28 = .ok (.ifCond .lt 7, 3) := by decide +kernel
theorem dX4_unplan_31 : decode cX4_unplan 31 = .ok (.iconst 2, 1) := by decide +kernel
theorem dX4_unplan_32 : decode cX4_unplan 32 = .ok (.goto 4, 3) := by decide +kernel
theorem dX4_unplan_35 : decode cX4_unplan 35 = .ok (.iconst 0, 1) := by decide +kernel
theorem dX4_unplan_36 : decode cX4_unplan 36 = .ok (.invokevirtual 89, 3) := by decide +kernel
theorem dX4_unplan_39 : decode cX4_unplan 39 = .ok (.ifCond .eq 5, 3) := by decide +kernel
theorem dX4_unplan_42 : decode cX4_unplan 42 = .ok (.iconst 0, 1) := by decide +kernel
theorem dX4_unplan_43 : decode cX4_unplan 43 = .ok (.ireturn, 1) := by decide +kernel
theorem dX4_unplan_44 : decode cX4_unplan 44 = .ok (.aload_n 0, 1) := by decide +kernel
theorem dX4_unplan_45 : decode cX4_unplan 45 = .ok (.aload_n 0, 1) := by decide +kernel
theorem dX4_unplan_46 : decode cX4_unplan 46 = .ok (.getfield 7, 3) := by decide +kernel
theorem dX4_unplan_49 : decode cX4_unplan 49 = .ok (.invokevirtual 92, 3) := by decide +kernel
theorem dX4_unplan_52 : decode cX4_unplan 52 = .ok (.aload_n 0, 1) := by decide +kernel
theorem dX4_unplan_53 : decode cX4_unplan 53 = .ok (.iload_n 1, 1) := by decide +kernel
theorem dX4_unplan_54 : decode cX4_unplan 54 = .ok (.iconst 2, 1) := by decide +kernel
theorem dX4_unplan_55 : decode cX4_unplan 55 = .ok (.iconst 0, 1) := by decide +kernel
theorem dX4_unplan_56 : decode cX4_unplan 56 = .ok (.invokevirtual 82, 3) := by decide +kernel
theorem dX4_unplan_59 : decode cX4_unplan 59 = .ok (.aload_n 0, 1) := by decide +kernel
theorem dX4_unplan_60 : decode cX4_unplan 60 = .ok (.iconst 0, 1) := by decide +kernel
theorem dX4_unplan_61 : decode cX4_unplan 61 = .ok (.invokevirtual 133, 3) := by decide +kernel
theorem dX4_unplan_64 : decode cX4_unplan 64 = .ok (.ireturn, 1) := by decide +kernel
theorem dX4_startSprint_0 : decode cX4_startSprint 0 = .ok (.aload_n 0, 1) := by decide +kernel
theorem dX4_startSprint_1 : decode cX4_startSprint 1 = .ok (.iload_n 1, 1) := by decide +kernel
theorem dX4_startSprint_2 : decode cX4_startSprint 2 = .ok (.iconst 1, 1) := by decide +kernel
theorem dX4_startSprint_3 : decode cX4_startSprint 3 = .ok (.bipush 10, 2) := by decide +kernel
theorem dX4_startSprint_5 : decode cX4_startSprint 5 = .ok (.invokestatic 59, 3) := by decide +kernel
theorem dX4_startSprint_8 : decode cX4_startSprint 8 = .ok (.ifCond .ne 7, 3) := by decide +kernel
theorem dX4_startSprint_11 : decode cX4_startSprint 11 = .ok (.iconst 1, 1) := by decide +kernel
theorem dX4_startSprint_12 : decode cX4_startSprint 12 = .ok (.goto 30, 3) := by decide +kernel
theorem dX4_startSprint_15 : decode cX4_startSprint 15 = .ok (.aload_n 0, 1) := by decide +kernel
theorem dX4_startSprint_16 : decode cX4_startSprint 16 = .ok (.getfield 7, 3) := by decide +kernel
theorem dX4_startSprint_19 : decode cX4_startSprint 19 = .ok (.iconst 2, 1) := by decide +kernel
theorem dX4_startSprint_20 : decode cX4_startSprint 20 = .ok (.iaload, 1) := by decide +kernel
theorem dX4_startSprint_21 : decode cX4_startSprint 21 = .ok (.iconst 1, 1) := by decide +kernel
theorem dX4_startSprint_22 : decode cX4_startSprint 22 = .ok (.if_icmp .eq 15, 3) := by decide +kernel
theorem dX4_startSprint_25 : decode cX4_startSprint 25 = .ok (.aload_n 0, 1) := by decide +kernel
theorem dX4_startSprint_26 : decode cX4_startSprint 26 = .ok (.getfield 7, 3) := by decide +kernel
theorem dX4_startSprint_29 : decode cX4_startSprint 29 = .ok (.bipush 6, 2) := by decide +kernel
theorem dX4_startSprint_31 : decode cX4_startSprint 31 = .ok (.iaload, 1) := by decide +kernel
theorem dX4_startSprint_32 : decode cX4_startSprint 32 = .ok (.bipush 9, 2) := by decide +kernel
theorem dX4_startSprint_34 : decode cX4_startSprint 34 = .ok (.if_icmp .ne 7, 3) := by decide +kernel
theorem dX4_startSprint_37 : decode cX4_startSprint 37 = .ok (.iconst 2, 1) := by decide +kernel
theorem dX4_startSprint_38 : decode cX4_startSprint 38 = .ok (.goto 4, 3) := by decide +kernel
theorem dX4_startSprint_41 : decode cX4_startSprint 41 = .ok (.iconst 0, 1) := by decide +kernel
theorem dX4_startSprint_42 : decode cX4_startSprint 42 = .ok (.invokevirtual 89, 3) := by decide +kernel
theorem dX4_startSprint_45 : decode cX4_startSprint 45 = .ok (.ifCond .eq 5, 3) := by decide +kernel
theorem dX4_startSprint_48 : decode cX4_startSprint 48 = .ok (.iconst 0, 1) := by decide +kernel
theorem dX4_startSprint_49 : decode cX4_startSprint 49 = .ok (.ireturn, 1) := by decide +kernel
theorem dX4_startSprint_50 : decode cX4_startSprint 50 = .ok (.aload_n 0, 1) := by decide +kernel
theorem dX4_startSprint_51 : decode cX4_startSprint 51 = .ok (.aload_n 0, 1) := by decide +kernel
theorem dX4_startSprint_52 : decode cX4_startSprint 52 = .ok (.getfield 7, 3) := by decide +kernel
theorem dX4_startSprint_55 : decode cX4_startSprint 55 = .ok (.invokevirtual 92, 3) := by decide +kernel
theorem dX4_startSprint_58 : decode cX4_startSprint 58 = .ok (.aload_n 0, 1) := by decide +kernel
theorem dX4_startSprint_59 : decode cX4_startSprint 59 = .ok (.getfield 7, 3) := by decide +kernel
theorem dX4_startSprint_62 : decode cX4_startSprint 62 = .ok (.iconst 2, 1) := by decide +kernel
theorem dX4_startSprint_63 : decode cX4_startSprint 63 = .ok (.iconst 1, 1) := by decide +kernel
theorem dX4_startSprint_64 : decode cX4_startSprint 64 = .ok (.iastore, 1) := by decide +kernel
theorem dX4_startSprint_65 : decode cX4_startSprint 65 = .ok (.aload_n 0, 1) := by decide +kernel
theorem dX4_startSprint_66 : decode cX4_startSprint 66 = .ok (.getfield 7, 3) := by decide +kernel
theorem dX4_startSprint_69 : decode cX4_startSprint 69 = .ok (.iconst 3, 1) := by decide +kernel
theorem dX4_startSprint_70 : decode cX4_startSprint 70 = .ok (.iload_n 1, 1) := by decide +kernel
theorem dX4_startSprint_71 : decode cX4_startSprint 71 = .ok (.iastore, 1) := by decide +kernel
theorem dX4_startSprint_72 : decode cX4_startSprint 72 = .ok (.aload_n 0, 1) := by decide +kernel
theorem dX4_startSprint_73 : decode cX4_startSprint 73 = .ok (.getfield 7, 3) := by decide +kernel
theorem dX4_startSprint_76 : decode cX4_startSprint 76 = .ok (.iconst 4, 1) := by decide +kernel
theorem dX4_startSprint_77 : decode cX4_startSprint 77 = .ok (.iconst 0, 1) := by decide +kernel
theorem dX4_startSprint_78 : decode cX4_startSprint 78 = .ok (.iastore, 1) := by decide +kernel
theorem dX4_startSprint_79 : decode cX4_startSprint 79 = .ok (.aload_n 0, 1) := by decide +kernel
theorem dX4_startSprint_80 : decode cX4_startSprint 80 = .ok (.getfield 7, 3) := by decide +kernel
theorem dX4_startSprint_83 : decode cX4_startSprint 83 = .ok (.iconst 5, 1) := by decide +kernel
theorem dX4_startSprint_84 : decode cX4_startSprint 84 = .ok (.aload_n 0, 1) := by decide +kernel
theorem dX4_startSprint_85 : decode cX4_startSprint 85 = .ok (.iconst 0, 1) := by decide +kernel
theorem dX4_startSprint_86 : decode cX4_startSprint 86 = .ok (.invokevirtual 133, 3) := by decide +kernel
theorem dX4_startSprint_89 : decode cX4_startSprint 89 = .ok (.iastore, 1) := by decide +kernel
theorem dX4_startSprint_90 : decode cX4_startSprint 90 = .ok (.aload_n 0, 1) := by decide +kernel
theorem dX4_startSprint_91 : decode cX4_startSprint 91 = .ok (.getfield 7, 3) := by decide +kernel
theorem dX4_startSprint_94 : decode cX4_startSprint 94 = .ok (.bipush 104, 2) := by decide +kernel
theorem dX4_startSprint_96 : decode cX4_startSprint 96 = .ok (.aload_n 0, 1) := by decide +kernel
theorem dX4_startSprint_97 : decode cX4_startSprint 97 = .ok (.iconst 1, 1) := by decide +kernel
theorem dX4_startSprint_98 : decode cX4_startSprint 98 = .ok (.invokevirtual 133, 3) := by decide +kernel
theorem dX4_startSprint_101 : decode cX4_startSprint 101 = .ok (.iastore, 1) := by decide +kernel
theorem dX4_startSprint_102 : decode cX4_startSprint 102 = .ok (.aload_n 0, 1) := by decide +kernel
theorem dX4_startSprint_103 : decode cX4_startSprint 103 = .ok (.getfield 7, 3) := by decide +kernel
theorem dX4_startSprint_106 : decode cX4_startSprint 106 = .ok (.bipush 6, 2) := by decide +kernel
theorem dX4_startSprint_108 : decode cX4_startSprint 108 = .ok (.iaload, 1) := by decide +kernel
theorem dX4_startSprint_109 : decode cX4_startSprint 109 = .ok (.ireturn, 1) := by decide +kernel
theorem dX4_works_0 : decode cX4_works 0 = .ok (.iconst 0, 1) := by decide +kernel
theorem dX4_works_1 : decode cX4_works 1 = .ok (.istore_n 1, 1) := by decide +kernel
theorem dX4_works_2 : decode cX4_works 2 = .ok (.iconst 0, 1) := by decide +kernel
theorem dX4_works_3 : decode cX4_works 3 = .ok (.istore_n 2, 1) := by decide +kernel
theorem dX4_works_4 : decode cX4_works 4 = .ok (.iconst 0, 1) := by decide +kernel
theorem dX4_works_5 : decode cX4_works 5 = .ok (.istore_n 3, 1) := by decide +kernel
theorem dX4_works_6 : decode cX4_works 6 = .ok (.iload_n 3, 1) := by decide +kernel
theorem dX4_works_7 : decode cX4_works 7 = .ok (.aload_n 0, 1) := by decide +kernel
theorem dX4_works_8 : decode cX4_works 8 = .ok (.getfield 7, 3) := by decide +kernel
theorem dX4_works_11 : decode cX4_works 11 = .ok (.iconst 0, 1) := by decide +kernel
theorem dX4_works_12 : decode cX4_works 12 = .ok (.iaload, 1) := by decide +kernel
theorem dX4_works_13 : decode cX4_works 13 = .ok (.if_icmp .ge 27, 3) := by decide +kernel
theorem dX4_works_16 : decode cX4_works 16 = .ok (.iload_n 1, 1) := by decide +kernel
theorem dX4_works_17 : decode cX4_works 17 = .ok (.aload_n 0, 1) := by decide +kernel
theorem dX4_works_18 : decode cX4_works 18 = .ok (.iload_n 3, 1) := by decide +kernel
theorem dX4_works_19 : decode cX4_works 19 = .ok (.invokevirtual 115, 3) := by decide +kernel
theorem dX4_works_22 : decode cX4_works 22 = .ok (.ifCond .le 9, 3) := by decide +kernel
theorem dX4_works_25 : decode cX4_works 25 = .ok (.iconst 1, 1) := by decide +kernel
theorem dX4_works_26 : decode cX4_works 26 = .ok (.iload_n 3, 1) := by decide +kernel
theorem dX4_works_27 : decode cX4_works 27 = .ok (.ishl, 1) := by decide +kernel
theorem dX4_works_28 : decode cX4_works 28 = .ok (.goto 4, 3) := by decide +kernel
theorem dX4_works_31 : decode cX4_works 31 = .ok (.iconst 0, 1) := by decide +kernel
theorem dX4_works_32 : decode cX4_works 32 = .ok (.ior, 1) := by decide +kernel
theorem dX4_works_33 : decode cX4_works 33 = .ok (.istore_n 1, 1) := by decide +kernel
theorem dX4_works_34 : decode cX4_works 34 = .ok (.iinc 3 1, 3) := by decide +kernel
theorem dX4_works_37 : decode cX4_works 37 = .ok (.goto (-31), 3) := by decide +kernel
theorem dX4_works_40 : decode cX4_works 40 = .ok (.iconst 0, 1) := by decide +kernel
theorem dX4_works_41 : decode cX4_works 41 = .ok (.istore_n 3, 1) := by decide +kernel
theorem dX4_works_42 : decode cX4_works 42 = .ok (.iload_n 3, 1) := by decide +kernel
theorem dX4_works_43 : decode cX4_works 43 = .ok (.aload_n 0, 1) := by decide +kernel
theorem dX4_works_44 : decode cX4_works 44 = .ok (.getfield 7, 3) := by decide +kernel
theorem dX4_works_47 : decode cX4_works 47 = .ok (.iconst 1, 1) := by decide +kernel
theorem dX4_works_48 : decode cX4_works 48 = .ok (.iaload, 1) := by decide +kernel
theorem dX4_works_49 : decode cX4_works 49 = .ok (.if_icmp .ge 80, 3) := by decide +kernel
theorem dX4_works_52 : decode cX4_works 52 = .ok (.aload_n 0, 1) := by decide +kernel
theorem dX4_works_53 : decode cX4_works 53 = .ok (.iload_n 3, 1) := by decide +kernel
theorem dX4_works_54 : decode cX4_works 54 = .ok (.iconst 1, 1) := by decide +kernel
theorem dX4_works_55 : decode cX4_works 55 = .ok (.invokevirtual 130, 3) := by decide +kernel
theorem dX4_works_58 : decode cX4_works 58 = .ok (.istore 4, 2) := by decide +kernel
theorem dX4_works_60 : decode cX4_works 60 = .ok (.iload 4, 2) := by decide +kernel
theorem dX4_works_62 : decode cX4_works 62 = .ok (.ifCond .lt 61, 3) := by decide +kernel
theorem dX4_works_65 : decode cX4_works 65 = .ok (.iload_n 1, 1) := by decide +kernel
theorem dX4_works_66 : decode cX4_works 66 = .ok (.iload 4, 2) := by decide +kernel
theorem dX4_works_68 : decode cX4_works 68 = .ok (.ishr, 1) := by decide +kernel
theorem dX4_works_69 : decode cX4_works 69 = .ok (.iconst 1, 1) := by decide +kernel
theorem dX4_works_70 : decode cX4_works 70 = .ok (.iand, 1) := by decide +kernel
theorem dX4_works_71 : decode cX4_works 71 = .ok (.iconst 1, 1) := by decide +kernel
theorem dX4_works_72 : decode cX4_works 72 = .ok (.if_icmp .ne 6, 3) := by decide +kernel
theorem dX4_works_75 : decode cX4_works 75 = .ok (.goto 48, 3) := by decide +kernel
theorem dX4_works_78 : decode cX4_works 78 = .ok (.aload_n 0, 1) := by decide +kernel
theorem dX4_works_79 : decode cX4_works 79 = .ok (.iload 4, 2) := by decide +kernel
theorem dX4_works_81 : decode cX4_works 81 = .ok (.iconst 1, 1) := by decide +kernel
theorem dX4_works_82 : decode cX4_works 82 = .ok (.iconst 0, 1) := by decide +kernel
theorem dX4_works_83 : decode cX4_works 83 = .ok (.aload_n 0, 1) := by decide +kernel
theorem dX4_works_84 : decode cX4_works 84 = .ok (.iload 4, 2) := by decide +kernel
theorem dX4_works_86 : decode cX4_works 86 = .ok (.iconst 1, 1) := by decide +kernel
theorem dX4_works_87 : decode cX4_works 87 = .ok (.invokevirtual 67, 3) := by decide +kernel
theorem dX4_works_90 : decode cX4_works 90 = .ok (.aload_n 0, 1) := by decide +kernel
theorem dX4_works_91 : decode cX4_works 91 = .ok (.iload_n 3, 1) := by decide +kernel
theorem dX4_works_92 : decode cX4_works 92 = .ok (.iconst 0, 1) := by decide +kernel
theorem dX4_works_93 : decode cX4_works 93 = .ok (.invokevirtual 130, 3) := by decide +kernel
theorem dX4_works_96 : decode cX4_works 96 = .ok (.isub, 1) := by decide +kernel
theorem dX4_works_97 : decode cX4_works 97 = .ok (.invokestatic 121, 3) := by decide +kernel
theorem dX4_works_100 : decode cX4_works 100 = .ok (.invokevirtual 82, 3) := by decide +kernel
theorem dX4_works_103 : decode cX4_works 103 = .ok (.aload_n 0, 1) := by decide +kernel
theorem dX4_works_104 : decode cX4_works 104 = .ok (.iload 4, 2) := by decide +kernel
theorem dX4_works_106 : decode cX4_works 106 = .ok (.invokevirtual 75, 3) := by decide +kernel
theorem dX4_works_109 : decode cX4_works 109 = .ok (.ifCond .ne 6, 3) := by decide +kernel
theorem dX4_works_112 : decode cX4_works 112 = .ok (.goto 11, 3) := by decide +kernel
theorem dX4_works_115 : decode cX4_works 115 = .ok (.aload_n 0, 1) := by decide +kernel
theorem dX4_works_116 : decode cX4_works 116 = .ok (.iload_n 3, 1) := by decide +kernel
theorem dX4_works_117 : decode cX4_works 117 = .ok (.invokevirtual 99, 3) := by decide +kernel
theorem dX4_works_120 : decode cX4_works 120 = .ok (.iinc 2 1, 3) := by decide +kernel
theorem dX4_works_123 : decode cX4_works 123 = .ok (.iinc 3 1, 3) := by decide +kernel
theorem dX4_works_126 : decode cX4_works 126 = .ok (.goto (-84), 3) := by decide +kernel
theorem dX4_works_129 : decode cX4_works 129 = .ok (.iload_n 2, 1) := by decide +kernel
theorem dX4_works_130 : decode cX4_works 130 = .ok (.ireturn, 1) := by decide +kernel
theorem dX4_passDay_0 : decode cX4_passDay 0 = .ok (.aload_n 0, 1) := by decide +kernel
theorem dX4_passDay_1 : decode cX4_passDay 1 = .ok (.aload_n 0, 1) := by decide +kernel
theorem dX4_passDay_2 : decode cX4_passDay 2 = .ok (.getfield 7, 3) := by decide +kernel
theorem dX4_passDay_5 : decode cX4_passDay 5 = .ok (.iconst 2, 1) := by decide +kernel
theorem dX4_passDay_6 : decode cX4_passDay 6 = .ok (.iaload, 1) := by decide +kernel
theorem dX4_passDay_7 : decode cX4_passDay 7 = .ok (.ifCond .eq 18, 3) := by decide +kernel
theorem dX4_passDay_10 : decode cX4_passDay 10 = .ok (.aload_n 0, 1) := by decide +kernel
theorem dX4_passDay_11 : decode cX4_passDay 11 = .ok (.getfield 7, 3) := by decide +kernel
theorem dX4_passDay_14 : decode cX4_passDay 14 = .ok (.iconst 4, 1) := by decide +kernel
theorem dX4_passDay_15 : decode cX4_passDay 15 = .ok (.iaload, 1) := by decide +kernel
theorem dX4_passDay_16 : decode cX4_passDay 16 = .ok (.aload_n 0, 1) := by decide +kernel
theorem dX4_passDay_17 : decode cX4_passDay 17 = .ok (.getfield 7, 3) := by decide +kernel
theorem dX4_passDay_20 : decode cX4_passDay 20 = .ok (.iconst 3, 1) := by decide +kernel
theorem dX4_passDay_21 : decode cX4_passDay 21 = .ok (.iaload, 1) := by decide +kernel
theorem dX4_passDay_22 : decode cX4_passDay 22 = .ok (.if_icmp .ne 7, 3) := by decide +kernel
theorem dX4_passDay_25 : decode cX4_passDay 25 = .ok (.iconst 1, 1) := by decide +kernel
theorem dX4_passDay_26 : decode cX4_passDay 26 = .ok (.goto 4, 3) := by decide +kernel
theorem dX4_passDay_29 : decode cX4_passDay 29 = .ok (.iconst 0, 1) := by decide +kernel
theorem dX4_passDay_30 : decode cX4_passDay 30 = .ok (.invokevirtual 89, 3) := by decide +kernel
theorem dX4_passDay_33 : decode cX4_passDay 33 = .ok (.ifCond .eq 5, 3) := by decide +kernel
theorem dX4_passDay_36 : decode cX4_passDay 36 = .ok (.iconst 0, 1) := by decide +kernel
theorem dX4_passDay_37 : decode cX4_passDay 37 = .ok (.ireturn, 1) := by decide +kernel
theorem dX4_passDay_38 : decode cX4_passDay 38 = .ok (.aload_n 0, 1) := by decide +kernel
theorem dX4_passDay_39 : decode cX4_passDay 39 = .ok (.aload_n 0, 1) := by decide +kernel
theorem dX4_passDay_40 : decode cX4_passDay 40 = .ok (.getfield 7, 3) := by decide +kernel
theorem dX4_passDay_43 : decode cX4_passDay 43 = .ok (.invokevirtual 92, 3) := by decide +kernel
theorem dX4_passDay_46 : decode cX4_passDay 46 = .ok (.aload_n 0, 1) := by decide +kernel
theorem dX4_passDay_47 : decode cX4_passDay 47 = .ok (.invokevirtual 136, 3) := by decide +kernel
theorem dX4_passDay_50 : decode cX4_passDay 50 = .ok (.istore_n 1, 1) := by decide +kernel
theorem dX4_passDay_51 : decode cX4_passDay 51 = .ok (.aload_n 0, 1) := by decide +kernel
theorem dX4_passDay_52 : decode cX4_passDay 52 = .ok (.getfield 7, 3) := by decide +kernel
theorem dX4_passDay_55 : decode cX4_passDay 55 = .ok (.iconst 4, 1) := by decide +kernel
theorem dX4_passDay_56 : decode cX4_passDay 56 = .ok (.dup2, 1) := by decide +kernel
theorem dX4_passDay_57 : decode cX4_passDay 57 = .ok (.iaload, 1) := by decide +kernel
theorem dX4_passDay_58 : decode cX4_passDay 58 = .ok (.iconst 1, 1) := by decide +kernel
theorem dX4_passDay_59 : decode cX4_passDay 59 = .ok (.iadd, 1) := by decide +kernel
theorem dX4_passDay_60 : decode cX4_passDay 60 = .ok (.iastore, 1) := by decide +kernel
theorem dX4_passDay_61 : decode cX4_passDay 61 = .ok (.aload_n 0, 1) := by decide +kernel
theorem dX4_passDay_62 : decode cX4_passDay 62 = .ok (.getfield 7, 3) := by decide +kernel
theorem dX4_passDay_65 : decode cX4_passDay 65 = .ok (.bipush 104, 2) := by decide +kernel
theorem dX4_passDay_67 : decode cX4_passDay 67 = .ok (.aload_n 0, 1) := by decide +kernel
theorem dX4_passDay_68 : decode cX4_passDay 68 = .ok (.getfield 7, 3) := by decide +kernel
theorem dX4_passDay_71 : decode cX4_passDay 71 = .ok (.iconst 4, 1) := by decide +kernel
theorem dX4_passDay_72 : decode cX4_passDay 72 = .ok (.iaload, 1) := by decide +kernel
theorem dX4_passDay_73 : decode cX4_passDay 73 = .ok (.iadd, 1) := by decide +kernel
theorem dX4_passDay_74 : decode cX4_passDay 74 = .ok (.aload_n 0, 1) := by decide +kernel
theorem dX4_passDay_75 : decode cX4_passDay 75 = .ok (.iconst 1, 1) := by decide +kernel
theorem dX4_passDay_76 : decode cX4_passDay 76 = .ok (.invokevirtual 133, 3) := by decide +kernel
theorem dX4_passDay_79 : decode cX4_passDay 79 = .ok (.iastore, 1) := by decide +kernel
theorem dX4_passDay_80 : decode cX4_passDay 80 = .ok (.iload_n 1, 1) := by decide +kernel
theorem dX4_passDay_81 : decode cX4_passDay 81 = .ok (.ireturn, 1) := by decide +kernel
theorem dX4_endSprint_0 : decode cX4_endSprint 0 = .ok (.aload_n 0, 1) := by decide +kernel
theorem dX4_endSprint_1 : decode cX4_endSprint 1 = .ok (.aload_n 0, 1) := by decide +kernel
theorem dX4_endSprint_2 : decode cX4_endSprint 2 = .ok (.getfield 7, 3) := by decide +kernel
theorem dX4_endSprint_5 : decode cX4_endSprint 5 = .ok (.iconst 2, 1) := by decide +kernel
theorem dX4_endSprint_6 : decode cX4_endSprint 6 = .ok (.iaload, 1) := by decide +kernel
theorem dX4_endSprint_7 : decode cX4_endSprint 7 = .ok (.ifCond .ne 7, 3) := by decide +kernel
theorem dX4_endSprint_10 : decode cX4_endSprint 10 = .ok (.iconst 1, 1) := by decide +kernel
theorem dX4_endSprint_11 : decode cX4_endSprint 11 = .ok (.goto 4, 3) := by decide +kernel
theorem dX4_endSprint_14 : decode cX4_endSprint 14 = .ok (.iconst 0, 1) := by decide +kernel
theorem dX4_endSprint_15 : decode cX4_endSprint 15 = .ok (.invokevirtual 89, 3) := by decide +kernel
theorem dX4_endSprint_18 : decode cX4_endSprint 18 = .ok (.ifCond .eq 5, 3) := by decide +kernel
theorem dX4_endSprint_21 : decode cX4_endSprint 21 = .ok (.iconst 0, 1) := by decide +kernel
theorem dX4_endSprint_22 : decode cX4_endSprint 22 = .ok (.ireturn, 1) := by decide +kernel
theorem dX4_endSprint_23 : decode cX4_endSprint 23 = .ok (.aload_n 0, 1) := by decide +kernel
theorem dX4_endSprint_24 : decode cX4_endSprint 24 = .ok (.aload_n 0, 1) := by decide +kernel
theorem dX4_endSprint_25 : decode cX4_endSprint 25 = .ok (.getfield 7, 3) := by decide +kernel
theorem dX4_endSprint_28 : decode cX4_endSprint 28 = .ok (.invokevirtual 92, 3) := by decide +kernel
theorem dX4_endSprint_31 : decode cX4_endSprint 31 = .ok (.iconst 0, 1) := by decide +kernel
theorem dX4_endSprint_32 : decode cX4_endSprint 32 = .ok (.istore_n 1, 1) := by decide +kernel
theorem dX4_endSprint_33 : decode cX4_endSprint 33 = .ok (.iconst 0, 1) := by decide +kernel
theorem dX4_endSprint_34 : decode cX4_endSprint 34 = .ok (.istore_n 2, 1) := by decide +kernel
theorem dX4_endSprint_35 : decode cX4_endSprint 35 = .ok (.iload_n 2, 1) := by decide +kernel
theorem dX4_endSprint_36 : decode cX4_endSprint 36 = .ok (.aload_n 0, 1) := by decide +kernel
theorem dX4_endSprint_37 : decode cX4_endSprint 37 = .ok (.getfield 7, 3) := by decide +kernel
theorem dX4_endSprint_40 : decode cX4_endSprint 40 = .ok (.iconst 0, 1) := by decide +kernel
theorem dX4_endSprint_41 : decode cX4_endSprint 41 = .ok (.iaload, 1) := by decide +kernel
theorem dX4_endSprint_42 : decode cX4_endSprint 42 = .ok (.if_icmp .ge 47, 3) := by decide +kernel
theorem dX4_endSprint_45 : decode cX4_endSprint 45 = .ok (.iload_n 1, 1) := by decide +kernel
theorem dX4_endSprint_46 : decode cX4_endSprint 46 = .ok (.aload_n 0, 1) := by decide +kernel
theorem dX4_endSprint_47 : decode cX4_endSprint 47 = .ok (.iload_n 2, 1) := by decide +kernel
theorem dX4_endSprint_48 : decode cX4_endSprint 48 = .ok (.iconst 2, 1) := by decide +kernel
theorem dX4_endSprint_49 : decode cX4_endSprint 49 = .ok (.invokevirtual 67, 3) := by decide +kernel
theorem dX4_endSprint_52 : decode cX4_endSprint 52 = .ok (.iconst 1, 1) := by decide +kernel
theorem dX4_endSprint_53 : decode cX4_endSprint 53 = .ok (.if_icmp .ne 20, 3) := by decide +kernel
theorem dX4_endSprint_56 : decode cX4_endSprint 56 = .ok (.aload_n 0, 1) := by decide +kernel
theorem dX4_endSprint_57 : decode cX4_endSprint 57 = .ok (.iload_n 2, 1) := by decide +kernel
theorem dX4_endSprint_58 : decode cX4_endSprint 58 = .ok (.invokevirtual 75, 3) := by decide +kernel
theorem dX4_endSprint_61 : decode cX4_endSprint 61 = .ok (.ifCond .eq 12, 3) := by decide +kernel
theorem dX4_endSprint_64 : decode cX4_endSprint 64 = .ok (.aload_n 0, 1) := by decide +kernel
theorem dX4_endSprint_65 : decode cX4_endSprint 65 = .ok (.iload_n 2, 1) := by decide +kernel
theorem dX4_endSprint_66 : decode cX4_endSprint 66 = .ok (.iconst 0, 1) := by decide +kernel
theorem dX4_endSprint_67 : decode cX4_endSprint 67 = .ok (.invokevirtual 67, 3) := by decide +kernel
theorem dX4_endSprint_70 : decode cX4_endSprint 70 = .ok (.goto 4, 3) := by decide +kernel
theorem dX4_endSprint_73 : decode cX4_endSprint 73 = .ok (.iconst 0, 1) := by decide +kernel
theorem dX4_endSprint_74 : decode cX4_endSprint 74 = .ok (.iadd, 1) := by decide +kernel
theorem dX4_endSprint_75 : decode cX4_endSprint 75 = .ok (.istore_n 1, 1) := by decide +kernel
theorem dX4_endSprint_76 : decode cX4_endSprint 76 = .ok (.aload_n 0, 1) := by decide +kernel
theorem dX4_endSprint_77 : decode cX4_endSprint 77 = .ok (.iload_n 2, 1) := by decide +kernel
theorem dX4_endSprint_78 : decode cX4_endSprint 78 = .ok (.iconst 2, 1) := by decide +kernel
theorem dX4_endSprint_79 : decode cX4_endSprint 79 = .ok (.iconst 0, 1) := by decide +kernel
theorem dX4_endSprint_80 : decode cX4_endSprint 80 = .ok (.invokevirtual 82, 3) := by decide +kernel
theorem dX4_endSprint_83 : decode cX4_endSprint 83 = .ok (.iinc 2 1, 3) := by decide +kernel
theorem dX4_endSprint_86 : decode cX4_endSprint 86 = .ok (.goto (-51), 3) := by decide +kernel
theorem dX4_endSprint_89 : decode cX4_endSprint 89 = .ok (.iconst 0, 1) := by decide +kernel
theorem dX4_endSprint_90 : decode cX4_endSprint 90 = .ok (.istore_n 2, 1) := by decide +kernel
theorem dX4_endSprint_91 : decode cX4_endSprint 91 = .ok (.iload_n 2, 1) := by decide +kernel
theorem dX4_endSprint_92 : decode cX4_endSprint 92 = .ok (.aload_n 0, 1) := by decide +kernel
theorem dX4_endSprint_93 : decode cX4_endSprint 93 = .ok (.getfield 7, 3) := by decide +kernel
theorem dX4_endSprint_96 : decode cX4_endSprint 96 = .ok (.iconst 1, 1) := by decide +kernel
theorem dX4_endSprint_97 : decode cX4_endSprint 97 = .ok (.iaload, 1) := by decide +kernel
theorem dX4_endSprint_98 : decode cX4_endSprint 98 = .ok (.if_icmp .ge 23, 3) := by decide +kernel
theorem dX4_endSprint_101 : decode cX4_endSprint 101 = .ok (.aload_n 0, 1) := by decide +kernel
theorem dX4_endSprint_102 : decode cX4_endSprint 102 = .ok (.iload_n 2, 1) := by decide +kernel
theorem dX4_endSprint_103 : decode cX4_endSprint 103 = .ok (.iconst 1, 1) := by decide +kernel
theorem dX4_endSprint_104 : decode cX4_endSprint 104 = .ok (.invokevirtual 130, 3) := by decide +kernel
theorem dX4_endSprint_107 : decode cX4_endSprint 107 = .ok (.ifCond .lt 8, 3) := by decide +kernel
theorem dX4_endSprint_110 : decode cX4_endSprint 110 = .ok (.aload_n 0, 1) := by decide +kernel
theorem dX4_endSprint_111 : decode cX4_endSprint 111 = .ok (.iload_n 2, 1) := by decide +kernel
theorem dX4_endSprint_112 : decode cX4_endSprint 112 = .ok (.invokevirtual 99, 3) := by decide +kernel
theorem dX4_endSprint_115 : decode cX4_endSprint 115 = .ok (.iinc 2 1, 3) := by decide +kernel
theorem dX4_endSprint_118 : decode cX4_endSprint 118 = .ok (.goto (-27), 3) := by decide +kernel
theorem dX4_endSprint_121 : decode cX4_endSprint 121 = .ok (.aload_n 0, 1) := by decide +kernel
theorem dX4_endSprint_122 : decode cX4_endSprint 122 = .ok (.getfield 7, 3) := by decide +kernel
theorem dX4_endSprint_125 : decode cX4_endSprint 125 = .ok (.bipush 95, 2) := by decide +kernel
theorem dX4_endSprint_127 : decode cX4_endSprint 127 = .ok (.aload_n 0, 1) := by decide +kernel
theorem dX4_endSprint_128 : decode cX4_endSprint 128 = .ok (.getfield 7, 3) := by decide +kernel
theorem dX4_endSprint_131 : decode cX4_endSprint 131 = .ok (.bipush 6, 2) := by decide +kernel
theorem dX4_endSprint_133 : decode cX4_endSprint 133 = .ok (.iaload, 1) := by decide +kernel
theorem dX4_endSprint_134 : decode cX4_endSprint 134 = .ok (.iadd, 1) := by decide +kernel
theorem dX4_endSprint_135 : decode cX4_endSprint 135 = .ok (.iload_n 1, 1) := by decide +kernel
theorem dX4_endSprint_136 : decode cX4_endSprint 136 = .ok (.iastore, 1) := by decide +kernel
theorem dX4_endSprint_137 : decode cX4_endSprint 137 = .ok (.aload_n 0, 1) := by decide +kernel
theorem dX4_endSprint_138 : decode cX4_endSprint 138 = .ok (.getfield 7, 3) := by decide +kernel
theorem dX4_endSprint_141 : decode cX4_endSprint 141 = .ok (.bipush 6, 2) := by decide +kernel
theorem dX4_endSprint_143 : decode cX4_endSprint 143 = .ok (.dup2, 1) := by decide +kernel
theorem dX4_endSprint_144 : decode cX4_endSprint 144 = .ok (.iaload, 1) := by decide +kernel
theorem dX4_endSprint_145 : decode cX4_endSprint 145 = .ok (.iconst 1, 1) := by decide +kernel
theorem dX4_endSprint_146 : decode cX4_endSprint 146 = .ok (.iadd, 1) := by decide +kernel
theorem dX4_endSprint_147 : decode cX4_endSprint 147 = .ok (.iastore, 1) := by decide +kernel
theorem dX4_endSprint_148 : decode cX4_endSprint 148 = .ok (.aload_n 0, 1) := by decide +kernel
theorem dX4_endSprint_149 : decode cX4_endSprint 149 = .ok (.getfield 7, 3) := by decide +kernel
theorem dX4_endSprint_152 : decode cX4_endSprint 152 = .ok (.iconst 2, 1) := by decide +kernel
theorem dX4_endSprint_153 : decode cX4_endSprint 153 = .ok (.iconst 0, 1) := by decide +kernel
theorem dX4_endSprint_154 : decode cX4_endSprint 154 = .ok (.iastore, 1) := by decide +kernel
theorem dX4_endSprint_155 : decode cX4_endSprint 155 = .ok (.iload_n 1, 1) := by decide +kernel
theorem dX4_endSprint_156 : decode cX4_endSprint 156 = .ok (.ireturn, 1) := by decide +kernel
theorem dX4_isActive_0 : decode cX4_isActive 0 = .ok (.aload_n 0, 1) := by decide +kernel
theorem dX4_isActive_1 : decode cX4_isActive 1 = .ok (.iconst 0, 1) := by decide +kernel
theorem dX4_isActive_2 : decode cX4_isActive 2 = .ok (.putfield 45, 3) := by decide +kernel
theorem dX4_isActive_5 : decode cX4_isActive 5 = .ok (.aload_n 0, 1) := by decide +kernel
theorem dX4_isActive_6 : decode cX4_isActive 6 = .ok (.getfield 7, 3) := by decide +kernel
theorem dX4_isActive_9 : decode cX4_isActive 9 = .ok (.iconst 2, 1) := by decide +kernel
theorem dX4_isActive_10 : decode cX4_isActive 10 = .ok (.iaload, 1) := by decide +kernel
theorem dX4_isActive_11 : decode cX4_isActive 11 = .ok (.iconst 1, 1) := by decide +kernel
theorem dX4_isActive_12 : decode cX4_isActive 12 = .ok (.if_icmp .ne 7, 3) := by decide +kernel
theorem dX4_isActive_15 : decode cX4_isActive 15 = .ok (.iconst 1, 1) := by decide +kernel
theorem dX4_isActive_16 : decode cX4_isActive 16 = .ok (.goto 4, 3) := by decide +kernel
theorem dX4_isActive_19 : decode cX4_isActive 19 = .ok (.iconst 0, 1) := by decide +kernel
theorem dX4_isActive_20 : decode cX4_isActive 20 = .ok (.ireturn, 1) := by decide +kernel
theorem dX4_sprintCount_0 : decode cX4_sprintCount 0 = .ok (.aload_n 0, 1) := by decide +kernel
theorem dX4_sprintCount_1 : decode cX4_sprintCount 1 = .ok (.iconst 0, 1) := by decide +kernel
theorem dX4_sprintCount_2 : decode cX4_sprintCount 2 = .ok (.putfield 45, 3) := by decide +kernel
theorem dX4_sprintCount_5 : decode cX4_sprintCount 5 = .ok (.aload_n 0, 1) := by decide +kernel
theorem dX4_sprintCount_6 : decode cX4_sprintCount 6 = .ok (.getfield 7, 3) := by decide +kernel
theorem dX4_sprintCount_9 : decode cX4_sprintCount 9 = .ok (.bipush 6, 2) := by decide +kernel
theorem dX4_sprintCount_11 : decode cX4_sprintCount 11 = .ok (.iaload, 1) := by decide +kernel
theorem dX4_sprintCount_12 : decode cX4_sprintCount 12 = .ok (.ireturn, 1) := by decide +kernel
theorem dX4_isIdle_0 : decode cX4_isIdle 0 = .ok (.aload_n 0, 1) := by decide +kernel
theorem dX4_isIdle_1 : decode cX4_isIdle 1 = .ok (.aload_n 0, 1) := by decide +kernel
theorem dX4_isIdle_2 : decode cX4_isIdle 2 = .ok (.getfield 7, 3) := by decide +kernel
theorem dX4_isIdle_5 : decode cX4_isIdle 5 = .ok (.iconst 2, 1) := by decide +kernel
theorem dX4_isIdle_6 : decode cX4_isIdle 6 = .ok (.iaload, 1) := by decide +kernel
theorem dX4_isIdle_7 : decode cX4_isIdle 7 = .ok (.ifCond .ne 7, 3) := by decide +kernel
theorem dX4_isIdle_10 : decode cX4_isIdle 10 = .ok (.iconst 1, 1) := by decide +kernel
theorem dX4_isIdle_11 : decode cX4_isIdle 11 = .ok (.goto 4, 3) := by decide +kernel
theorem dX4_isIdle_14 : decode cX4_isIdle 14 = .ok (.iconst 0, 1) := by decide +kernel
theorem dX4_isIdle_15 : decode cX4_isIdle 15 = .ok (.invokevirtual 89, 3) := by decide +kernel
theorem dX4_isIdle_18 : decode cX4_isIdle 18 = .ok (.ireturn, 1) := by decide +kernel
theorem dX4_daysPassed_0 : decode cX4_daysPassed 0 = .ok (.aload_n 0, 1) := by decide +kernel
theorem dX4_daysPassed_1 : decode cX4_daysPassed 1 = .ok (.invokevirtual 140, 3) := by decide +kernel
theorem dX4_daysPassed_4 : decode cX4_daysPassed 4 = .ok (.ifCond .eq 7, 3) := by decide +kernel
theorem dX4_daysPassed_7 : decode cX4_daysPassed 7 = .ok (.iconst 0, 1) := by decide +kernel
theorem dX4_daysPassed_8 : decode cX4_daysPassed 8 = .ok (.goto 9, 3) := by decide +kernel
theorem dX4_daysPassed_11 : decode cX4_daysPassed 11 = .ok (.aload_n 0, 1) := by decide +kernel
theorem dX4_daysPassed_12 : decode cX4_daysPassed 12 = .ok (.getfield 7, 3) := by decide +kernel
theorem dX4_daysPassed_15 : decode cX4_daysPassed 15 = .ok (.iconst 4, 1) := by decide +kernel
theorem dX4_daysPassed_16 : decode cX4_daysPassed 16 = .ok (.iaload, 1) := by decide +kernel
theorem dX4_daysPassed_17 : decode cX4_daysPassed 17 = .ok (.ireturn, 1) := by decide +kernel
theorem dX4_isPlanned_0 : decode cX4_isPlanned 0 = .ok (.aload_n 0, 1) := by decide +kernel
theorem dX4_isPlanned_1 : decode cX4_isPlanned 1 = .ok (.iload_n 1, 1) := by decide +kernel
theorem dX4_isPlanned_2 : decode cX4_isPlanned 2 = .ok (.invokevirtual 112, 3) := by decide +kernel
theorem dX4_isPlanned_5 : decode cX4_isPlanned 5 = .ok (.ifCond .ne 17, 3) := by decide +kernel
theorem dX4_isPlanned_8 : decode cX4_isPlanned 8 = .ok (.aload_n 0, 1) := by decide +kernel
theorem dX4_isPlanned_9 : decode cX4_isPlanned 9 = .ok (.iload_n 1, 1) := by decide +kernel
theorem dX4_isPlanned_10 : decode cX4_isPlanned 10 = .ok (.iconst 2, 1) := by decide +kernel
theorem dX4_isPlanned_11 : decode cX4_isPlanned 11 = .ok (.invokevirtual 67, 3) := by decide +kernel
theorem dX4_isPlanned_14 : decode cX4_isPlanned 14 = .ok (.iconst 1, 1) := by decide +kernel
theorem dX4_isPlanned_15 : decode cX4_isPlanned 15 = .ok (.if_icmp .ne 7, 3) := by decide +kernel
theorem dX4_isPlanned_18 : decode cX4_isPlanned 18 = .ok (.iconst 1, 1) := by decide +kernel
theorem dX4_isPlanned_19 : decode cX4_isPlanned 19 = .ok (.goto 4, 3) := by decide +kernel
theorem dX4_isPlanned_22 : decode cX4_isPlanned 22 = .ok (.iconst 0, 1) := by decide +kernel
theorem dX4_isPlanned_23 : decode cX4_isPlanned 23 = .ok (.ireturn, 1) := by decide +kernel
theorem dX4_scope_0 : decode cX4_scope 0 = .ok (.aload_n 0, 1) := by decide +kernel
theorem dX4_scope_1 : decode cX4_scope 1 = .ok (.iconst 0, 1) := by decide +kernel
theorem dX4_scope_2 : decode cX4_scope 2 = .ok (.putfield 45, 3) := by decide +kernel
theorem dX4_scope_5 : decode cX4_scope 5 = .ok (.aload_n 0, 1) := by decide +kernel
theorem dX4_scope_6 : decode cX4_scope 6 = .ok (.iconst 0, 1) := by decide +kernel
theorem dX4_scope_7 : decode cX4_scope 7 = .ok (.invokevirtual 133, 3) := by decide +kernel
theorem dX4_scope_10 : decode cX4_scope 10 = .ok (.ireturn, 1) := by decide +kernel
theorem dX4_left_0 : decode cX4_left 0 = .ok (.aload_n 0, 1) := by decide +kernel
theorem dX4_left_1 : decode cX4_left 1 = .ok (.iconst 0, 1) := by decide +kernel
theorem dX4_left_2 : decode cX4_left 2 = .ok (.putfield 45, 3) := by decide +kernel
theorem dX4_left_5 : decode cX4_left 5 = .ok (.aload_n 0, 1) := by decide +kernel
theorem dX4_left_6 : decode cX4_left 6 = .ok (.iconst 1, 1) := by decide +kernel
theorem dX4_left_7 : decode cX4_left 7 = .ok (.invokevirtual 133, 3) := by decide +kernel
theorem dX4_left_10 : decode cX4_left 10 = .ok (.ireturn, 1) := by decide +kernel
theorem dX4_worked_0 : decode cX4_worked 0 = .ok (.aload_n 0, 1) := by decide +kernel
theorem dX4_worked_1 : decode cX4_worked 1 = .ok (.iconst 0, 1) := by decide +kernel
theorem dX4_worked_2 : decode cX4_worked 2 = .ok (.putfield 45, 3) := by decide +kernel
theorem dX4_worked_5 : decode cX4_worked 5 = .ok (.aload_n 0, 1) := by decide +kernel
theorem dX4_worked_6 : decode cX4_worked 6 = .ok (.iconst 0, 1) := by decide +kernel
theorem dX4_worked_7 : decode cX4_worked 7 = .ok (.invokevirtual 133, 3) := by decide +kernel
theorem dX4_worked_10 : decode cX4_worked 10 = .ok (.aload_n 0, 1) := by decide +kernel
theorem dX4_worked_11 : decode cX4_worked 11 = .ok (.iconst 1, 1) := by decide +kernel
theorem dX4_worked_12 : decode cX4_worked 12 = .ok (.invokevirtual 133, 3) := by decide +kernel
theorem dX4_worked_15 : decode cX4_worked 15 = .ok (.isub, 1) := by decide +kernel
theorem dX4_worked_16 : decode cX4_worked 16 = .ok (.ireturn, 1) := by decide +kernel
theorem dX4_scopeChange_0 : decode cX4_scopeChange 0 = .ok (.aload_n 0, 1) := by decide +kernel
theorem dX4_scopeChange_1 : decode cX4_scopeChange 1 = .ok (.invokevirtual 140, 3) := by decide +kernel
theorem dX4_scopeChange_4 : decode cX4_scopeChange 4 = .ok (.ifCond .eq 7, 3) := by decide +kernel
theorem dX4_scopeChange_7 : decode cX4_scopeChange 7 = .ok (.iconst 0, 1) := by decide +kernel
theorem dX4_scopeChange_8 : decode cX4_scopeChange 8 = .ok (.goto 15, 3) := by decide +kernel
theorem dX4_scopeChange_11 : decode cX4_scopeChange 11 = .ok (.aload_n 0, 1) := by decide +kernel
theorem dX4_scopeChange_12 : decode cX4_scopeChange 12 = .ok (.iconst 0, 1) := by decide +kernel
theorem dX4_scopeChange_13 : decode cX4_scopeChange 13 = .ok (.invokevirtual 133, 3) := by decide +kernel
theorem dX4_scopeChange_16 : decode cX4_scopeChange 16 = .ok (.aload_n 0, 1) := by decide +kernel
theorem dX4_scopeChange_17 : decode cX4_scopeChange 17 = .ok (.getfield 7, 3) := by decide +kernel
theorem dX4_scopeChange_20 : decode cX4_scopeChange 20 = .ok (.iconst 5, 1) := by decide +kernel
theorem dX4_scopeChange_21 : decode cX4_scopeChange 21 = .ok (.iaload, 1) := by decide +kernel
theorem dX4_scopeChange_22 : decode cX4_scopeChange 22 = .ok (.isub, 1) := by decide +kernel
theorem dX4_scopeChange_23 : decode cX4_scopeChange 23 = .ok (.ireturn, 1) := by decide +kernel
theorem dX4_burnDown_0 : decode cX4_burnDown 0 = .ok (.aload_n 0, 1) := by decide +kernel
theorem dX4_burnDown_1 : decode cX4_burnDown 1 = .ok (.aload_n 0, 1) := by decide +kernel
theorem dX4_burnDown_2 : decode cX4_burnDown 2 = .ok (.getfield 7, 3) := by decide +kernel
theorem dX4_burnDown_5 : decode cX4_burnDown 5 = .ok (.iconst 2, 1) := by decide +kernel
theorem dX4_burnDown_6 : decode cX4_burnDown 6 = .ok (.iaload, 1) := by decide +kernel
theorem dX4_burnDown_7 : decode cX4_burnDown 7 = .ok (.iconst 1, 1) := by decide +kernel
theorem dX4_burnDown_8 : decode cX4_burnDown 8 = .ok (.if_icmp .ne 21, 3) := by decide +kernel
theorem dX4_burnDown_11 : decode cX4_burnDown 11 = .ok (.iload_n 1, 1) := by decide +kernel
theorem dX4_burnDown_12 : decode cX4_burnDown 12 = .ok (.iconst 0, 1) := by decide +kernel
theorem dX4_burnDown_13 : decode cX4_burnDown 13 = .ok (.aload_n 0, 1) := by decide +kernel
theorem dX4_burnDown_14 : decode cX4_burnDown 14 = .ok (.getfield 7, 3) := by decide +kernel
theorem dX4_burnDown_17 : decode cX4_burnDown 17 = .ok (.iconst 4, 1) := by decide +kernel
theorem dX4_burnDown_18 : decode cX4_burnDown 18 = .ok (.iaload, 1) := by decide +kernel
theorem dX4_burnDown_19 : decode cX4_burnDown 19 = .ok (.invokestatic 59, 3) := by decide +kernel
theorem dX4_burnDown_22 : decode cX4_burnDown 22 = .ok (.ifCond .eq 7, 3) := by decide +kernel
theorem dX4_burnDown_25 : decode cX4_burnDown 25 = .ok (.iconst 0, 1) := by decide +kernel
theorem dX4_burnDown_26 : decode cX4_burnDown 26 = .ok (.goto 4, 3) := by decide +kernel
theorem dX4_burnDown_29 : decode cX4_burnDown 29 = .ok (.iconst 1, 1) := by decide +kernel
theorem dX4_burnDown_30 : decode cX4_burnDown 30 = .ok (.invokevirtual 89, 3) := by decide +kernel
theorem dX4_burnDown_33 : decode cX4_burnDown 33 = .ok (.ifCond .eq 7, 3) := by decide +kernel
theorem dX4_burnDown_36 : decode cX4_burnDown 36 = .ok (.iconst 0, 1) := by decide +kernel
theorem dX4_burnDown_37 : decode cX4_burnDown 37 = .ok (.goto 12, 3) := by decide +kernel
theorem dX4_burnDown_40 : decode cX4_burnDown 40 = .ok (.aload_n 0, 1) := by decide +kernel
theorem dX4_burnDown_41 : decode cX4_burnDown 41 = .ok (.getfield 7, 3) := by decide +kernel
theorem dX4_burnDown_44 : decode cX4_burnDown 44 = .ok (.bipush 104, 2) := by decide +kernel
theorem dX4_burnDown_46 : decode cX4_burnDown 46 = .ok (.iload_n 1, 1) := by decide +kernel
theorem dX4_burnDown_47 : decode cX4_burnDown 47 = .ok (.iadd, 1) := by decide +kernel
theorem dX4_burnDown_48 : decode cX4_burnDown 48 = .ok (.iaload, 1) := by decide +kernel
theorem dX4_burnDown_49 : decode cX4_burnDown 49 = .ok (.ireturn, 1) := by decide +kernel
theorem dX4_idealBurnDown_0 : decode cX4_idealBurnDown 0 = .ok (.aload_n 0, 1) := by decide +kernel
theorem dX4_idealBurnDown_1 : decode cX4_idealBurnDown 1 = .ok (.aload_n 0, 1) := by decide +kernel
theorem dX4_idealBurnDown_2 : decode cX4_idealBurnDown 2 = .ok (.getfield 7, 3) := by decide +kernel
theorem dX4_idealBurnDown_5 : decode cX4_idealBurnDown 5 = .ok (.iconst 2, 1) := by decide +kernel
theorem dX4_idealBurnDown_6 : decode cX4_idealBurnDown 6 = .ok (.iaload, 1) := by decide +kernel
theorem dX4_idealBurnDown_7 : decode cX4_idealBurnDown 7 = .ok (.iconst 1, 1) := by decide +kernel
theorem dX4_idealBurnDown_8 : decode cX4_idealBurnDown 8 = .ok (.if_icmp .ne 21, 3) := by decide +kernel
theorem dX4_idealBurnDown_11 : decode cX4_idealBurnDown 11 = .ok (.iload_n 1, 1) := by decide +kernel
theorem dX4_idealBurnDown_12 : decode cX4_idealBurnDown 12 = .ok (.iconst 0, 1) := by decide +kernel
theorem dX4_idealBurnDown_13 : decode cX4_idealBurnDown 13 = .ok (.aload_n 0, 1) := by decide +kernel
theorem dX4_idealBurnDown_14 : decode cX4_idealBurnDown 14 = .ok (.getfield 7, 3) := by decide +kernel
theorem dX4_idealBurnDown_17 : decode cX4_idealBurnDown 17 = .ok (.iconst 3, 1) := by decide +kernel
theorem dX4_idealBurnDown_18 : decode cX4_idealBurnDown 18 = .ok (.iaload, 1) := by decide +kernel
theorem dX4_idealBurnDown_19 : decode cX4_idealBurnDown 19 = .ok (.invokestatic 59, 3) := by decide +kernel
theorem dX4_idealBurnDown_22 : decode cX4_idealBurnDown 22 = .ok (.ifCond .eq 7, 3) := by decide +kernel
theorem dX4_idealBurnDown_25 : decode cX4_idealBurnDown 25 = .ok (.iconst 0, 1) := by decide +kernel
theorem dX4_idealBurnDown_26 : decode cX4_idealBurnDown 26 = .ok (.goto 4, 3) := by decide +kernel
theorem dX4_idealBurnDown_29 : decode cX4_idealBurnDown 29 = .ok (.iconst 1, 1) := by decide +kernel
theorem dX4_idealBurnDown_30 : decode cX4_idealBurnDown 30 = .ok (.invokevirtual 89, 3) := by decide +kernel
theorem dX4_idealBurnDown_33 : decode cX4_idealBurnDown 33 = .ok (.ifCond .eq 7, 3) := by decide +kernel
theorem dX4_idealBurnDown_36 : decode cX4_idealBurnDown 36 = .ok (.fconst 0, 1) := by decide +kernel
theorem dX4_idealBurnDown_37 : decode cX4_idealBurnDown 37 = .ok (.goto 29, 3) := by decide +kernel
theorem dX4_idealBurnDown_40 : decode cX4_idealBurnDown 40 = .ok (.aload_n 0, 1) := by decide +kernel
theorem dX4_idealBurnDown_41 : decode cX4_idealBurnDown 41 = .ok (.getfield 7, 3) := by decide +kernel
theorem dX4_idealBurnDown_44 : decode cX4_idealBurnDown 44 = .ok (.bipush 104, 2) := by decide +kernel
theorem dX4_idealBurnDown_46 : decode cX4_idealBurnDown 46 = .ok (.iaload, 1) := by decide +kernel
theorem dX4_idealBurnDown_47 : decode cX4_idealBurnDown 47 = .ok (.i2f, 1) := by decide +kernel
theorem dX4_idealBurnDown_48 : decode cX4_idealBurnDown 48 = .ok (.aload_n 0, 1) := by decide +kernel
theorem dX4_idealBurnDown_49 : decode cX4_idealBurnDown 49 = .ok (.getfield 7, 3) := by decide +kernel
theorem dX4_idealBurnDown_52 : decode cX4_idealBurnDown 52 = .ok (.iconst 3, 1) := by decide +kernel
theorem dX4_idealBurnDown_53 : decode cX4_idealBurnDown 53 = .ok (.iaload, 1) := by decide +kernel
theorem dX4_idealBurnDown_54 : decode cX4_idealBurnDown 54 = .ok (.iload_n 1, 1) := by decide +kernel
theorem dX4_idealBurnDown_55 : decode cX4_idealBurnDown 55 = .ok (.isub, 1) := by decide +kernel
theorem dX4_idealBurnDown_56 : decode cX4_idealBurnDown 56 = .ok (.i2f, 1) := by decide +kernel
theorem dX4_idealBurnDown_57 : decode cX4_idealBurnDown 57 = .ok (.fmul, 1) := by decide +kernel
theorem dX4_idealBurnDown_58 : decode cX4_idealBurnDown 58 = .ok (.aload_n 0, 1) := by decide +kernel
theorem dX4_idealBurnDown_59 : decode cX4_idealBurnDown 59 = .ok (.getfield 7, 3) := by decide +kernel
theorem dX4_idealBurnDown_62 : decode cX4_idealBurnDown 62 = .ok (.iconst 3, 1) := by decide +kernel
theorem dX4_idealBurnDown_63 : decode cX4_idealBurnDown 63 = .ok (.iaload, 1) := by decide +kernel
theorem dX4_idealBurnDown_64 : decode cX4_idealBurnDown 64 = .ok (.i2f, 1) := by decide +kernel
theorem dX4_idealBurnDown_65 : decode cX4_idealBurnDown 65 = .ok (.fdiv, 1) := by decide +kernel
theorem dX4_idealBurnDown_66 : decode cX4_idealBurnDown 66 = .ok (.freturn, 1) := by decide +kernel
theorem dX4_velocityOf_0 : decode cX4_velocityOf 0 = .ok (.aload_n 0, 1) := by decide +kernel
theorem dX4_velocityOf_1 : decode cX4_velocityOf 1 = .ok (.iload_n 1, 1) := by decide +kernel
theorem dX4_velocityOf_2 : decode cX4_velocityOf 2 = .ok (.iconst 0, 1) := by decide +kernel
theorem dX4_velocityOf_3 : decode cX4_velocityOf 3 = .ok (.aload_n 0, 1) := by decide +kernel
theorem dX4_velocityOf_4 : decode cX4_velocityOf 4 = .ok (.getfield 7, 3) := by decide +kernel
theorem dX4_velocityOf_7 : decode cX4_velocityOf 7 = .ok (.bipush 6, 2) := by decide +kernel
theorem dX4_velocityOf_9 : decode cX4_velocityOf 9 = .ok (.iaload, 1) := by decide +kernel
theorem dX4_velocityOf_10 : decode cX4_velocityOf 10 = .ok (.iconst 1, 1) := by decide +kernel
theorem dX4_velocityOf_11 : decode cX4_velocityOf 11 = .ok (.isub, 1) := by decide +kernel
theorem dX4_velocityOf_12 : decode cX4_velocityOf 12 = .ok (.invokestatic 59, 3) := by decide +kernel
theorem dX4_velocityOf_15 : decode cX4_velocityOf 15 = .ok (.ifCond .eq 7, 3) := by decide +kernel
theorem dX4_velocityOf_18 : decode cX4_velocityOf 18 = .ok (.iconst 0, 1) := by decide +kernel
theorem dX4_velocityOf_19 : decode cX4_velocityOf 19 = .ok (.goto 4, 3) := by decide +kernel
theorem dX4_velocityOf_22 : decode cX4_velocityOf 22 = .ok (.iconst 1, 1) := by decide +kernel
theorem dX4_velocityOf_23 : decode cX4_velocityOf 23 = .ok (.invokevirtual 89, 3) := by decide +kernel
theorem dX4_velocityOf_26 : decode cX4_velocityOf 26 = .ok (.ifCond .eq 7, 3) := by decide +kernel
theorem dX4_velocityOf_29 : decode cX4_velocityOf 29 = .ok (.iconst 0, 1) := by decide +kernel
theorem dX4_velocityOf_30 : decode cX4_velocityOf 30 = .ok (.goto 12, 3) := by decide +kernel
theorem dX4_velocityOf_33 : decode cX4_velocityOf 33 = .ok (.aload_n 0, 1) := by decide +kernel
theorem dX4_velocityOf_34 : decode cX4_velocityOf 34 = .ok (.getfield 7, 3) := by decide +kernel
theorem dX4_velocityOf_37 : decode cX4_velocityOf 37 = .ok (.bipush 95, 2) := by decide +kernel
theorem dX4_velocityOf_39 : decode cX4_velocityOf 39 = .ok (.iload_n 1, 1) := by decide +kernel
theorem dX4_velocityOf_40 : decode cX4_velocityOf 40 = .ok (.iadd, 1) := by decide +kernel
theorem dX4_velocityOf_41 : decode cX4_velocityOf 41 = .ok (.iaload, 1) := by decide +kernel
theorem dX4_velocityOf_42 : decode cX4_velocityOf 42 = .ok (.ireturn, 1) := by decide +kernel
theorem dX4_meanVelocity_0 : decode cX4_meanVelocity 0 = .ok (.aload_n 0, 1) := by decide +kernel
theorem dX4_meanVelocity_1 : decode cX4_meanVelocity 1 = .ok (.aload_n 0, 1) := by decide +kernel
theorem dX4_meanVelocity_2 : decode cX4_meanVelocity 2 = .ok (.getfield 7, 3) := by decide +kernel
theorem dX4_meanVelocity_5 : decode cX4_meanVelocity 5 = .ok (.bipush 6, 2) := by decide +kernel
theorem dX4_meanVelocity_7 : decode cX4_meanVelocity 7 = .ok (.iaload, 1) := by decide +kernel
theorem dX4_meanVelocity_8 : decode cX4_meanVelocity 8 = .ok (.ifCond .ne 7, 3) := by decide +kernel
theorem dX4_meanVelocity_11 : decode cX4_meanVelocity 11 = .ok (.iconst 1, 1) := by decide +kernel
theorem dX4_meanVelocity_12 : decode cX4_meanVelocity 12 = .ok (.goto 4, 3) := by decide +kernel
theorem dX4_meanVelocity_15 : decode cX4_meanVelocity 15 = .ok (.iconst 0, 1) := by decide +kernel
theorem dX4_meanVelocity_16 : decode cX4_meanVelocity 16 = .ok (.invokevirtual 89, 3) := by decide +kernel
theorem dX4_meanVelocity_19 : decode cX4_meanVelocity 19 = .ok (.ifCond .eq 5, 3) := by decide +kernel
theorem dX4_meanVelocity_22 : decode cX4_meanVelocity 22 = .ok (.dconst 0, 1) := by decide +kernel
theorem dX4_meanVelocity_23 : decode cX4_meanVelocity 23 = .ok (.dreturn, 1) := by decide +kernel
theorem dX4_meanVelocity_24 : decode cX4_meanVelocity 24 = .ok (.iconst 0, 1) := by decide +kernel
theorem dX4_meanVelocity_25 : decode cX4_meanVelocity 25 = .ok (.istore_n 1, 1) := by decide +kernel
theorem dX4_meanVelocity_26 : decode cX4_meanVelocity 26 = .ok (.iconst 0, 1) := by decide +kernel
theorem dX4_meanVelocity_27 : decode cX4_meanVelocity 27 = .ok (.istore_n 2, 1) := by decide +kernel
theorem dX4_meanVelocity_28 : decode cX4_meanVelocity 28 = .ok (.iload_n 2, 1) := by decide +kernel
theorem dX4_meanVelocity_29 : decode cX4_meanVelocity 29 = .ok (.aload_n 0, 1) := by decide +kernel
theorem dX4_meanVelocity_30 : decode cX4_meanVelocity 30 = .ok (.getfield 7, 3) := by decide +kernel
theorem dX4_meanVelocity_33 : decode cX4_meanVelocity 33 = .ok (.bipush 6, 2) := by decide +kernel
theorem dX4_meanVelocity_35 : decode cX4_meanVelocity 35 = .ok (.iaload, 1) := by decide +kernel
theorem dX4_meanVelocity_36 : decode cX4_meanVelocity 36 = .ok (.if_icmp .ge 21, 3) := by decide +kernel
theorem dX4_meanVelocity_39 : decode cX4_meanVelocity 39 = .ok (.iload_n 1, 1) := by decide +kernel
theorem dX4_meanVelocity_40 : decode cX4_meanVelocity 40 = .ok (.aload_n 0, 1) := by decide +kernel
theorem dX4_meanVelocity_41 : decode cX4_meanVelocity 41 = .ok (.getfield 7, 3) := by decide +kernel
theorem dX4_meanVelocity_44 : decode cX4_meanVelocity 44 = .ok (.bipush 95, 2) := by decide +kernel
theorem dX4_meanVelocity_46 : decode cX4_meanVelocity 46 = .ok (.iload_n 2, 1) := by decide +kernel
theorem dX4_meanVelocity_47 : decode cX4_meanVelocity 47 = .ok (.iadd, 1) := by decide +kernel
theorem dX4_meanVelocity_48 : decode cX4_meanVelocity 48 = .ok (.iaload, 1) := by decide +kernel
theorem dX4_meanVelocity_49 : decode cX4_meanVelocity 49 = .ok (.iadd, 1) := by decide +kernel
theorem dX4_meanVelocity_50 : decode cX4_meanVelocity 50 = .ok (.istore_n 1, 1) := by decide +kernel
theorem dX4_meanVelocity_51 : decode cX4_meanVelocity 51 = .ok (.iinc 2 1, 3) := by decide +kernel
theorem dX4_meanVelocity_54 : decode cX4_meanVelocity 54 = .ok (.goto (-26), 3) := by decide +kernel
theorem dX4_meanVelocity_57 : decode cX4_meanVelocity 57 = .ok (.iload_n 1, 1) := by decide +kernel
theorem dX4_meanVelocity_58 : decode cX4_meanVelocity 58 = .ok (.i2d, 1) := by decide +kernel
theorem dX4_meanVelocity_59 : decode cX4_meanVelocity 59 = .ok (.aload_n 0, 1) := by decide +kernel
theorem dX4_meanVelocity_60 : decode cX4_meanVelocity 60 = .ok (.getfield 7, 3) := by decide +kernel
theorem dX4_meanVelocity_63 : decode cX4_meanVelocity 63 = .ok (.bipush 6, 2) := by decide +kernel
theorem dX4_meanVelocity_65 : decode cX4_meanVelocity 65 = .ok (.iaload, 1) := by decide +kernel
theorem dX4_meanVelocity_66 : decode cX4_meanVelocity 66 = .ok (.i2d, 1) := by decide +kernel
theorem dX4_meanVelocity_67 : decode cX4_meanVelocity 67 = .ok (.ddiv, 1) := by decide +kernel
theorem dX4_meanVelocity_68 : decode cX4_meanVelocity 68 = .ok (.dreturn, 1) := by decide +kernel
theorem dX4_needs_0 : decode cX4_needs 0 = .ok (.iconst 0, 1) := by decide +kernel
theorem dX4_needs_1 : decode cX4_needs 1 = .ok (.istore_n 1, 1) := by decide +kernel
theorem dX4_needs_2 : decode cX4_needs 2 = .ok (.iconst 0, 1) := by decide +kernel
theorem dX4_needs_3 : decode cX4_needs 3 = .ok (.istore_n 2, 1) := by decide +kernel
theorem dX4_needs_4 : decode cX4_needs 4 = .ok (.iload_n 2, 1) := by decide +kernel
theorem dX4_needs_5 : decode cX4_needs 5 = .ok (.aload_n 0, 1) := by decide +kernel
theorem dX4_needs_6 : decode cX4_needs 6 = .ok (.getfield 7, 3) := by decide +kernel
theorem dX4_needs_9 : decode cX4_needs 9 = .ok (.iconst 0, 1) := by decide +kernel
theorem dX4_needs_10 : decode cX4_needs 10 = .ok (.iaload, 1) := by decide +kernel
theorem dX4_needs_11 : decode cX4_needs 11 = .ok (.if_icmp .ge 186, 3) := by decide +kernel
theorem dX4_needs_14 : decode cX4_needs 14 = .ok (.iconst 0, 1) := by decide +kernel
theorem dX4_needs_15 : decode cX4_needs 15 = .ok (.istore_n 3, 1) := by decide +kernel
theorem dX4_needs_16 : decode cX4_needs 16 = .ok (.iload_n 1, 1) := by decide +kernel
theorem dX4_needs_17 : decode cX4_needs 17 = .ok (.iload_n 3, 1) := by decide +kernel
theorem dX4_needs_18 : decode cX4_needs 18 = .ok (.ishr, 1) := by decide +kernel
theorem dX4_needs_19 : decode cX4_needs 19 = .ok (.iconst 1, 1) := by decide +kernel
theorem dX4_needs_20 : decode cX4_needs 20 = .ok (.iand, 1) := by decide +kernel
theorem dX4_needs_21 : decode cX4_needs 21 = .ok (.iconst 1, 1) := by decide +kernel
theorem dX4_needs_22 : decode cX4_needs 22 = .ok (.if_icmp .eq 16, 3) := by decide +kernel
theorem dX4_needs_25 : decode cX4_needs 25 = .ok (.aload_n 0, 1) := by decide +kernel
theorem dX4_needs_26 : decode cX4_needs 26 = .ok (.iload_n 3, 1) := by decide +kernel
theorem dX4_needs_27 : decode cX4_needs 27 = .ok (.iconst 4, 1) := by decide +kernel
theorem dX4_needs_28 : decode cX4_needs 28 = .ok (.invokevirtual 67, 3) := by decide +kernel
theorem dX4_needs_31 : decode cX4_needs 31 = .ok (.iload_n 1, 1) := by decide +kernel
theorem dX4_needs_32 : decode cX4_needs 32 = .ok (.iconst (-1), 1) := by decide +kernel
theorem dX4_needs_33 : decode cX4_needs 33 = .ok (.ixor, 1) := by decide +kernel
theorem dX4_needs_34 : decode cX4_needs 34 = .ok (.iand, 1) := by decide +kernel
theorem dX4_needs_35 : decode cX4_needs 35 = .ok (.ifCond .eq 9, 3) := by decide +kernel
theorem dX4_needs_38 : decode cX4_needs 38 = .ok (.iinc 3 1, 3) := by decide +kernel
theorem dX4_needs_41 : decode cX4_needs 41 = .ok (.goto (-25), 3) := by decide +kernel
theorem dX4_needs_44 : decode cX4_needs 44 = .ok (.iload_n 1, 1) := by decide +kernel
theorem dX4_needs_45 : decode cX4_needs 45 = .ok (.iconst 1, 1) := by decide +kernel
theorem dX4_needs_46 : decode cX4_needs 46 = .ok (.iload_n 3, 1) := by decide +kernel
theorem dX4_needs_47 : decode cX4_needs 47 = .ok (.ishl, 1) := by decide +kernel
theorem dX4_needs_48 : decode cX4_needs 48 = .ok (.ior, 1) := by decide +kernel
theorem dX4_needs_49 : decode cX4_needs 49 = .ok (.istore_n 1, 1) := by decide +kernel
theorem dX4_needs_50 : decode cX4_needs 50 = .ok (.aload_n 0, 1) := by decide +kernel
theorem dX4_needs_51 : decode cX4_needs 51 = .ok (.iload_n 3, 1) := by decide +kernel
theorem dX4_needs_52 : decode cX4_needs 52 = .ok (.iconst 3, 1) := by decide +kernel
theorem dX4_needs_53 : decode cX4_needs 53 = .ok (.invokevirtual 67, 3) := by decide +kernel
theorem dX4_needs_56 : decode cX4_needs 56 = .ok (.ifCond .ge 7, 3) := by decide +kernel
theorem dX4_needs_59 : decode cX4_needs 59 = .ok (.iconst (-1), 1) := by decide +kernel
theorem dX4_needs_60 : decode cX4_needs 60 = .ok (.goto 4, 3) := by decide +kernel
theorem dX4_needs_63 : decode cX4_needs 63 = .ok (.iconst 0, 1) := by decide +kernel
theorem dX4_needs_64 : decode cX4_needs 64 = .ok (.istore 4, 2) := by decide +kernel
theorem dX4_needs_66 : decode cX4_needs 66 = .ok (.iconst 0, 1) := by decide +kernel
theorem dX4_needs_67 : decode cX4_needs 67 = .ok (.istore 5, 2) := by decide +kernel
theorem dX4_needs_69 : decode cX4_needs 69 = .ok (.iload 5, 2) := by decide +kernel
theorem dX4_needs_71 : decode cX4_needs 71 = .ok (.aload_n 0, 1) := by decide +kernel
theorem dX4_needs_72 : decode cX4_needs 72 = .ok (.getfield 7, 3) := by decide +kernel
theorem dX4_needs_75 : decode cX4_needs 75 = .ok (.iconst 0, 1) := by decide +kernel
theorem dX4_needs_76 : decode cX4_needs 76 = .ok (.iaload, 1) := by decide +kernel
theorem dX4_needs_77 : decode cX4_needs 77 = .ok (.if_icmp .ge 52, 3) := by decide +kernel
theorem dX4_needs_80 : decode cX4_needs 80 = .ok (.iload 4, 2) := by decide +kernel
theorem dX4_needs_82 : decode cX4_needs 82 = .ok (.ifCond .lt 47, 3) := by decide +kernel
theorem dX4_needs_85 : decode cX4_needs 85 = .ok (.aload_n 0, 1) := by decide +kernel
theorem dX4_needs_86 : decode cX4_needs 86 = .ok (.iload_n 3, 1) := by decide +kernel
theorem dX4_needs_87 : decode cX4_needs 87 = .ok (.iload 5, 2) := by decide +kernel
theorem dX4_needs_89 : decode cX4_needs 89 = .ok (.invokevirtual 71, 3) := by decide +kernel
theorem dX4_needs_92 : decode cX4_needs 92 = .ok (.ifCond .eq 31, 3) := by decide +kernel
theorem dX4_needs_95 : decode cX4_needs 95 = .ok (.aload_n 0, 1) := by decide +kernel
theorem dX4_needs_96 : decode cX4_needs 96 = .ok (.getfield 39, 3) := by decide +kernel
theorem dX4_needs_99 : decode cX4_needs 99 = .ok (.iload 5, 2) := by decide +kernel
theorem dX4_needs_101 : decode cX4_needs 101 = .ok (.iaload, 1) := by decide +kernel
theorem dX4_needs_102 : decode cX4_needs 102 = .ok (.ifCond .ge 7, 3) := by decide +kernel
theorem dX4_needs_105 : decode cX4_needs 105 = .ok (.iconst (-1), 1) := by decide +kernel
theorem dX4_needs_106 : decode cX4_needs 106 = .ok (.goto 15, 3) := by decide +kernel
theorem dX4_needs_109 : decode cX4_needs 109 = .ok (.iload 4, 2) := by decide +kernel
theorem dX4_needs_111 : decode cX4_needs 111 = .ok (.aload_n 0, 1) := by decide +kernel
theorem dX4_needs_112 : decode cX4_needs 112 = .ok (.getfield 39, 3) := by decide +kernel
theorem dX4_needs_115 : decode cX4_needs 115 = .ok (.iload 5, 2) := by decide +kernel
theorem dX4_needs_117 : decode cX4_needs 117 = .ok (.iaload, 1) := by decide +kernel
theorem dX4_needs_118 : decode cX4_needs 118 = .ok (.invokestatic 121, 3) := by decide +kernel
theorem dX4_needs_121 : decode cX4_needs 121 = .ok (.istore 4, 2) := by decide +kernel
theorem dX4_needs_123 : decode cX4_needs 123 = .ok (.iinc 5 1, 3) := by decide +kernel
theorem dX4_needs_126 : decode cX4_needs 126 = .ok (.goto (-57), 3) := by decide +kernel
theorem dX4_needs_129 : decode cX4_needs 129 = .ok (.iload 4, 2) := by decide +kernel
theorem dX4_needs_131 : decode cX4_needs 131 = .ok (.ifCond .lt 40, 3) := by decide +kernel
theorem dX4_needs_134 : decode cX4_needs 134 = .ok (.iload 4, 2) := by decide +kernel
theorem dX4_needs_136 : decode cX4_needs 136 = .ok (.aload_n 0, 1) := by decide +kernel
theorem dX4_needs_137 : decode cX4_needs 137 = .ok (.iload_n 3, 1) := by decide +kernel
theorem dX4_needs_138 : decode cX4_needs 138 = .ok (.iconst 1, 1) := by decide +kernel
theorem dX4_needs_139 : decode cX4_needs 139 = .ok (.invokevirtual 67, 3) := by decide +kernel
theorem dX4_needs_142 : decode cX4_needs 142 = .ok (.aload_n 0, 1) := by decide +kernel
theorem dX4_needs_143 : decode cX4_needs 143 = .ok (.aload_n 0, 1) := by decide +kernel
theorem dX4_needs_144 : decode cX4_needs 144 = .ok (.iload_n 3, 1) := by decide +kernel
theorem dX4_needs_145 : decode cX4_needs 145 = .ok (.iconst 3, 1) := by decide +kernel
theorem dX4_needs_146 : decode cX4_needs 146 = .ok (.invokevirtual 67, 3) := by decide +kernel
theorem dX4_needs_149 : decode cX4_needs 149 = .ok (.iconst 0, 1) := by decide +kernel
theorem dX4_needs_150 : decode cX4_needs 150 = .ok (.invokevirtual 130, 3) := by decide +kernel
theorem dX4_needs_153 : decode cX4_needs 153 = .ok (.iadd, 1) := by decide +kernel
theorem dX4_needs_154 : decode cX4_needs 154 = .ok (.iconst 1, 1) := by decide +kernel
theorem dX4_needs_155 : decode cX4_needs 155 = .ok (.isub, 1) := by decide +kernel
theorem dX4_needs_156 : decode cX4_needs 156 = .ok (.aload_n 0, 1) := by decide +kernel
theorem dX4_needs_157 : decode cX4_needs 157 = .ok (.aload_n 0, 1) := by decide +kernel
theorem dX4_needs_158 : decode cX4_needs 158 = .ok (.iload_n 3, 1) := by decide +kernel
theorem dX4_needs_159 : decode cX4_needs 159 = .ok (.iconst 3, 1) := by decide +kernel
theorem dX4_needs_160 : decode cX4_needs 160 = .ok (.invokevirtual 67, 3) := by decide +kernel
theorem dX4_needs_163 : decode cX4_needs 163 = .ok (.iconst 0, 1) := by decide +kernel
theorem dX4_needs_164 : decode cX4_needs 164 = .ok (.invokevirtual 130, 3) := by decide +kernel
theorem dX4_needs_167 : decode cX4_needs 167 = .ok (.idiv, 1) := by decide +kernel
theorem dX4_needs_168 : decode cX4_needs 168 = .ok (.iadd, 1) := by decide +kernel
theorem dX4_needs_169 : decode cX4_needs 169 = .ok (.istore 4, 2) := by decide +kernel
theorem dX4_needs_171 : decode cX4_needs 171 = .ok (.aload_n 0, 1) := by decide +kernel
theorem dX4_needs_172 : decode cX4_needs 172 = .ok (.getfield 39, 3) := by decide +kernel
theorem dX4_needs_175 : decode cX4_needs 175 = .ok (.iload_n 3, 1) := by decide +kernel
theorem dX4_needs_176 : decode cX4_needs 176 = .ok (.aload_n 0, 1) := by decide +kernel
theorem dX4_needs_177 : decode cX4_needs 177 = .ok (.iload_n 3, 1) := by decide +kernel
theorem dX4_needs_178 : decode cX4_needs 178 = .ok (.invokevirtual 75, 3) := by decide +kernel
theorem dX4_needs_181 : decode cX4_needs 181 = .ok (.ifCond .eq 7, 3) := by decide +kernel
theorem dX4_needs_184 : decode cX4_needs 184 = .ok (.iconst 0, 1) := by decide +kernel
theorem dX4_needs_185 : decode cX4_needs 185 = .ok (.goto 5, 3) := by decide +kernel
theorem dX4_needs_188 : decode cX4_needs 188 = .ok (.iload 4, 2) := by decide +kernel
theorem dX4_needs_190 : decode cX4_needs 190 = .ok (.iastore, 1) := by decide +kernel
theorem dX4_needs_191 : decode cX4_needs 191 = .ok (.iinc 2 1, 3) := by decide +kernel
theorem dX4_needs_194 : decode cX4_needs 194 = .ok (.goto (-190), 3) := by decide +kernel
theorem dX4_needs_197 : decode cX4_needs 197 = .ok (.return_, 1) := by decide +kernel
theorem dX4_finishes_0 : decode cX4_finishes 0 = .ok (.aload_n 0, 1) := by decide +kernel
theorem dX4_finishes_1 : decode cX4_finishes 1 = .ok (.iload_n 1, 1) := by decide +kernel
theorem dX4_finishes_2 : decode cX4_finishes 2 = .ok (.invokevirtual 112, 3) := by decide +kernel
theorem dX4_finishes_5 : decode cX4_finishes 5 = .ok (.ifCond .eq 5, 3) := by decide +kernel
theorem dX4_finishes_8 : decode cX4_finishes 8 = .ok (.iconst 0, 1) := by decide +kernel
theorem dX4_finishes_9 : decode cX4_finishes 9 = .ok (.ireturn, 1) := by decide +kernel
theorem dX4_finishes_10 : decode cX4_finishes 10 = .ok (.aload_n 0, 1) := by decide +kernel
theorem dX4_finishes_11 : decode cX4_finishes 11 = .ok (.invokevirtual 144, 3) := by decide +kernel
theorem dX4_finishes_14 : decode cX4_finishes 14 = .ok (.aload_n 0, 1) := by decide +kernel
theorem dX4_finishes_15 : decode cX4_finishes 15 = .ok (.aload_n 0, 1) := by decide +kernel
theorem dX4_finishes_16 : decode cX4_finishes 16 = .ok (.getfield 39, 3) := by decide +kernel
theorem dX4_finishes_19 : decode cX4_finishes 19 = .ok (.iload_n 1, 1) := by decide +kernel
theorem dX4_finishes_20 : decode cX4_finishes 20 = .ok (.iaload, 1) := by decide +kernel
theorem dX4_finishes_21 : decode cX4_finishes 21 = .ok (.ifCond .ge 7, 3) := by decide +kernel
theorem dX4_finishes_24 : decode cX4_finishes 24 = .ok (.iconst 2, 1) := by decide +kernel
theorem dX4_finishes_25 : decode cX4_finishes 25 = .ok (.goto 4, 3) := by decide +kernel
theorem dX4_finishes_28 : decode cX4_finishes 28 = .ok (.iconst 0, 1) := by decide +kernel
theorem dX4_finishes_29 : decode cX4_finishes 29 = .ok (.invokevirtual 89, 3) := by decide +kernel
theorem dX4_finishes_32 : decode cX4_finishes 32 = .ok (.ifCond .eq 7, 3) := by decide +kernel
theorem dX4_finishes_35 : decode cX4_finishes 35 = .ok (.iconst 0, 1) := by decide +kernel
theorem dX4_finishes_36 : decode cX4_finishes 36 = .ok (.goto 9, 3) := by decide +kernel
theorem dX4_finishes_39 : decode cX4_finishes 39 = .ok (.aload_n 0, 1) := by decide +kernel
theorem dX4_finishes_40 : decode cX4_finishes 40 = .ok (.getfield 39, 3) := by decide +kernel
theorem dX4_finishes_43 : decode cX4_finishes 43 = .ok (.iload_n 1, 1) := by decide +kernel
theorem dX4_finishes_44 : decode cX4_finishes 44 = .ok (.iaload, 1) := by decide +kernel
theorem dX4_finishes_45 : decode cX4_finishes 45 = .ok (.ireturn, 1) := by decide +kernel
theorem dX4_finishDay_0 : decode cX4_finishDay 0 = .ok (.aload_n 0, 1) := by decide +kernel
theorem dX4_finishDay_1 : decode cX4_finishDay 1 = .ok (.iload_n 1, 1) := by decide +kernel
theorem dX4_finishDay_2 : decode cX4_finishDay 2 = .ok (.invokevirtual 147, 3) := by decide +kernel
theorem dX4_finishDay_5 : decode cX4_finishDay 5 = .ok (.ireturn, 1) := by decide +kernel
theorem dX4_finishDayByRecursion_0 : decode cX4_finishDayByRecursion 0 = .ok (.aload_n 0, 1) := by decide +kernel
theorem dX4_finishDayByRecursion_1 : decode cX4_finishDayByRecursion 1 = .ok (.iload_n 1, 1) := by decide +kernel
theorem dX4_finishDayByRecursion_2 : decode cX4_finishDayByRecursion 2 = .ok (.invokevirtual 147, 3) := by decide +kernel
theorem dX4_finishDayByRecursion_5 : decode cX4_finishDayByRecursion 5 = .ok (.ireturn, 1) := by decide +kernel
theorem dX4_writes_0 : decode cX4_writes 0 = .ok (.aload_n 0, 1) := by decide +kernel
theorem dX4_writes_1 : decode cX4_writes 1 = .ok (.getfield 32, 3) := by decide +kernel
theorem dX4_writes_4 : decode cX4_writes 4 = .ok (.aload_n 0, 1) := by decide +kernel
theorem dX4_writes_5 : decode cX4_writes 5 = .ok (.getfield 150, 3) := by decide +kernel
theorem dX4_writes_8 : decode cX4_writes 8 = .ok (.iload_n 1, 1) := by decide +kernel
theorem dX4_writes_9 : decode cX4_writes 9 = .ok (.i2c, 1) := by decide +kernel
theorem dX4_writes_10 : decode cX4_writes 10 = .ok (.castore, 1) := by decide +kernel
theorem dX4_writes_11 : decode cX4_writes 11 = .ok (.aload_n 0, 1) := by decide +kernel
theorem dX4_writes_12 : decode cX4_writes 12 = .ok (.dup, 1) := by decide +kernel
theorem dX4_writes_13 : decode cX4_writes 13 = .ok (.getfield 150, 3) := by decide +kernel
theorem dX4_writes_16 : decode cX4_writes 16 = .ok (.iconst 1, 1) := by decide +kernel
theorem dX4_writes_17 : decode cX4_writes 17 = .ok (.iadd, 1) := by decide +kernel
theorem dX4_writes_18 : decode cX4_writes 18 = .ok (.putfield 150, 3) := by decide +kernel
theorem dX4_writes_21 : decode cX4_writes 21 = .ok (.return_, 1) := by decide +kernel
theorem dX4_writesNumber_0 : decode cX4_writesNumber 0 = .ok (.iload_n 1, 1) := by decide +kernel
theorem dX4_writesNumber_1 : decode cX4_writesNumber 1 = .ok (.bipush 9, 2) := by decide +kernel
theorem dX4_writesNumber_3 : decode cX4_writesNumber 3 = .ok (.if_icmp .le 11, 3) := by decide +kernel
theorem dX4_writesNumber_6 : decode cX4_writesNumber 6 = .ok (.aload_n 0, 1) := by decide +kernel
theorem dX4_writesNumber_7 : decode cX4_writesNumber 7 = .ok (.iload_n 1, 1) := by decide +kernel
theorem dX4_writesNumber_8 : decode cX4_writesNumber 8 = .ok (.bipush 10, 2) := by decide +kernel
theorem dX4_writesNumber_10 : decode cX4_writesNumber 10 = .ok (.idiv, 1) := by decide +kernel
theorem dX4_writesNumber_11 : decode cX4_writesNumber 11 = .ok (.invokevirtual 153, 3) := by decide +kernel
theorem dX4_writesNumber_14 : decode cX4_writesNumber 14 = .ok (.aload_n 0, 1) := by decide +kernel
theorem dX4_writesNumber_15 : decode cX4_writesNumber 15 = .ok (.bipush 48, 2) := by decide +kernel
theorem dX4_writesNumber_17 : decode cX4_writesNumber 17 = .ok (.iload_n 1, 1) := by decide +kernel
theorem dX4_writesNumber_18 : decode cX4_writesNumber 18 = .ok (.bipush 10, 2) := by decide +kernel
theorem dX4_writesNumber_20 : decode cX4_writesNumber 20 = .ok (.irem, 1) := by decide +kernel
theorem dX4_writesNumber_21 : decode cX4_writesNumber 21 = .ok (.iadd, 1) := by decide +kernel
theorem dX4_writesNumber_22 : decode cX4_writesNumber 22 = .ok (.invokevirtual 156, 3) := by decide +kernel
theorem dX4_writesNumber_25 : decode cX4_writesNumber 25 = .ok (.return_, 1) := by decide +kernel
theorem dX4_writeStory_0 : decode cX4_writeStory 0 = .ok (.aload_n 0, 1) := by decide +kernel
theorem dX4_writeStory_1 : decode cX4_writeStory 1 = .ok (.iload_n 1, 1) := by decide +kernel
theorem dX4_writeStory_2 : decode cX4_writeStory 2 = .ok (.invokevirtual 112, 3) := by decide +kernel
theorem dX4_writeStory_5 : decode cX4_writeStory 5 = .ok (.ifCond .eq 5, 3) := by decide +kernel
theorem dX4_writeStory_8 : decode cX4_writeStory 8 = .ok (.iconst 0, 1) := by decide +kernel
theorem dX4_writeStory_9 : decode cX4_writeStory 9 = .ok (.ireturn, 1) := by decide +kernel
theorem dX4_writeStory_10 : decode cX4_writeStory 10 = .ok (.aload_n 0, 1) := by decide +kernel
theorem dX4_writeStory_11 : decode cX4_writeStory 11 = .ok (.iconst 0, 1) := by decide +kernel
theorem dX4_writeStory_12 : decode cX4_writeStory 12 = .ok (.putfield 150, 3) := by decide +kernel
theorem dX4_writeStory_15 : decode cX4_writeStory 15 = .ok (.aload_n 0, 1) := by decide +kernel
theorem dX4_writeStory_16 : decode cX4_writeStory 16 = .ok (.iload_n 1, 1) := by decide +kernel
theorem dX4_writeStory_17 : decode cX4_writeStory 17 = .ok (.invokevirtual 153, 3) := by decide +kernel
theorem dX4_writeStory_20 : decode cX4_writeStory 20 = .ok (.aload_n 0, 1) := by decide +kernel
theorem dX4_writeStory_21 : decode cX4_writeStory 21 = .ok (.bipush 58, 2) := by decide +kernel
theorem dX4_writeStory_23 : decode cX4_writeStory 23 = .ok (.invokevirtual 156, 3) := by decide +kernel
theorem dX4_writeStory_26 : decode cX4_writeStory 26 = .ok (.aload_n 0, 1) := by decide +kernel
theorem dX4_writeStory_27 : decode cX4_writeStory 27 = .ok (.aload_n 0, 1) := by decide +kernel
theorem dX4_writeStory_28 : decode cX4_writeStory 28 = .ok (.iload_n 1, 1) := by decide +kernel
theorem dX4_writeStory_29 : decode cX4_writeStory 29 = .ok (.iconst 1, 1) := by decide +kernel
theorem dX4_writeStory_30 : decode cX4_writeStory 30 = .ok (.invokevirtual 67, 3) := by decide +kernel
theorem dX4_writeStory_33 : decode cX4_writeStory 33 = .ok (.invokevirtual 153, 3) := by decide +kernel
theorem dX4_writeStory_36 : decode cX4_writeStory 36 = .ok (.aload_n 0, 1) := by decide +kernel
theorem dX4_writeStory_37 : decode cX4_writeStory 37 = .ok (.bipush 47, 2) := by decide +kernel
theorem dX4_writeStory_39 : decode cX4_writeStory 39 = .ok (.invokevirtual 156, 3) := by decide +kernel
theorem dX4_writeStory_42 : decode cX4_writeStory 42 = .ok (.aload_n 0, 1) := by decide +kernel
theorem dX4_writeStory_43 : decode cX4_writeStory 43 = .ok (.aload_n 0, 1) := by decide +kernel
theorem dX4_writeStory_44 : decode cX4_writeStory 44 = .ok (.iload_n 1, 1) := by decide +kernel
theorem dX4_writeStory_45 : decode cX4_writeStory 45 = .ok (.iconst 0, 1) := by decide +kernel
theorem dX4_writeStory_46 : decode cX4_writeStory 46 = .ok (.invokevirtual 67, 3) := by decide +kernel
theorem dX4_writeStory_49 : decode cX4_writeStory 49 = .ok (.invokevirtual 153, 3) := by decide +kernel
theorem dX4_writeStory_52 : decode cX4_writeStory 52 = .ok (.aload_n 0, 1) := by decide +kernel
theorem dX4_writeStory_53 : decode cX4_writeStory 53 = .ok (.iload_n 1, 1) := by decide +kernel
theorem dX4_writeStory_54 : decode cX4_writeStory 54 = .ok (.iconst 2, 1) := by decide +kernel
theorem dX4_writeStory_55 : decode cX4_writeStory 55 = .ok (.invokevirtual 67, 3) := by decide +kernel
theorem dX4_writeStory_58 : decode cX4_writeStory 58 = .ok (.iconst 1, 1) := by decide +kernel
theorem dX4_writeStory_59 : decode cX4_writeStory 59 = .ok (.if_icmp .ne 9, 3) := by decide +kernel
theorem dX4_writeStory_62 : decode cX4_writeStory 62 = .ok (.aload_n 0, 1) := by decide +kernel
theorem dX4_writeStory_63 : decode cX4_writeStory 63 = .ok (.bipush 112, 2) := by decide +kernel
theorem dX4_writeStory_65 : decode cX4_writeStory 65 = .ok (.invokevirtual 156, 3) := by decide +kernel
theorem dX4_writeStory_68 : decode cX4_writeStory 68 = .ok (.aload_n 0, 1) := by decide +kernel
theorem dX4_writeStory_69 : decode cX4_writeStory 69 = .ok (.iload_n 1, 1) := by decide +kernel
theorem dX4_writeStory_70 : decode cX4_writeStory 70 = .ok (.invokevirtual 115, 3) := by decide +kernel
theorem dX4_writeStory_73 : decode cX4_writeStory 73 = .ok (.ifCond .le 9, 3) := by decide +kernel
theorem dX4_writeStory_76 : decode cX4_writeStory 76 = .ok (.aload_n 0, 1) := by decide +kernel
theorem dX4_writeStory_77 : decode cX4_writeStory 77 = .ok (.bipush 98, 2) := by decide +kernel
theorem dX4_writeStory_79 : decode cX4_writeStory 79 = .ok (.invokevirtual 156, 3) := by decide +kernel
theorem dX4_writeStory_82 : decode cX4_writeStory 82 = .ok (.aload_n 0, 1) := by decide +kernel
theorem dX4_writeStory_83 : decode cX4_writeStory 83 = .ok (.iload_n 1, 1) := by decide +kernel
theorem dX4_writeStory_84 : decode cX4_writeStory 84 = .ok (.iconst 3, 1) := by decide +kernel
theorem dX4_writeStory_85 : decode cX4_writeStory 85 = .ok (.invokevirtual 67, 3) := by decide +kernel
theorem dX4_writeStory_88 : decode cX4_writeStory 88 = .ok (.ifCond .lt 19, 3) := by decide +kernel
theorem dX4_writeStory_91 : decode cX4_writeStory 91 = .ok (.aload_n 0, 1) := by decide +kernel
theorem dX4_writeStory_92 : decode cX4_writeStory 92 = .ok (.bipush 64, 2) := by decide +kernel
theorem dX4_writeStory_94 : decode cX4_writeStory 94 = .ok (.invokevirtual 156, 3) := by decide +kernel
theorem dX4_writeStory_97 : decode cX4_writeStory 97 = .ok (.aload_n 0, 1) := by decide +kernel
theorem dX4_writeStory_98 : decode cX4_writeStory 98 = .ok (.aload_n 0, 1) := by decide +kernel
theorem dX4_writeStory_99 : decode cX4_writeStory 99 = .ok (.iload_n 1, 1) := by decide +kernel
theorem dX4_writeStory_100 : decode cX4_writeStory 100 = .ok (.iconst 3, 1) := by decide +kernel
theorem dX4_writeStory_101 : decode cX4_writeStory 101 = .ok (.invokevirtual 67, 3) := by decide +kernel
theorem dX4_writeStory_104 : decode cX4_writeStory 104 = .ok (.invokevirtual 153, 3) := by decide +kernel
theorem dX4_writeStory_107 : decode cX4_writeStory 107 = .ok (.aload_n 0, 1) := by decide +kernel
theorem dX4_writeStory_108 : decode cX4_writeStory 108 = .ok (.getfield 150, 3) := by decide +kernel
theorem dX4_writeStory_111 : decode cX4_writeStory 111 = .ok (.ireturn, 1) := by decide +kernel
theorem dX4_writeBurnDown_0 : decode cX4_writeBurnDown 0 = .ok (.aload_n 0, 1) := by decide +kernel
theorem dX4_writeBurnDown_1 : decode cX4_writeBurnDown 1 = .ok (.iconst 0, 1) := by decide +kernel
theorem dX4_writeBurnDown_2 : decode cX4_writeBurnDown 2 = .ok (.putfield 45, 3) := by decide +kernel
theorem dX4_writeBurnDown_5 : decode cX4_writeBurnDown 5 = .ok (.aload_n 0, 1) := by decide +kernel
theorem dX4_writeBurnDown_6 : decode cX4_writeBurnDown 6 = .ok (.iconst 0, 1) := by decide +kernel
theorem dX4_writeBurnDown_7 : decode cX4_writeBurnDown 7 = .ok (.putfield 150, 3) := by decide +kernel
theorem dX4_writeBurnDown_10 : decode cX4_writeBurnDown 10 = .ok (.iconst 0, 1) := by decide +kernel
theorem dX4_writeBurnDown_11 : decode cX4_writeBurnDown 11 = .ok (.istore_n 1, 1) := by decide +kernel
theorem dX4_writeBurnDown_12 : decode cX4_writeBurnDown 12 = .ok (.iload_n 1, 1) := by decide +kernel
theorem dX4_writeBurnDown_13 : decode cX4_writeBurnDown 13 = .ok (.aload_n 0, 1) := by decide +kernel
theorem dX4_writeBurnDown_14 : decode cX4_writeBurnDown 14 = .ok (.getfield 7, 3) := by decide +kernel
theorem dX4_writeBurnDown_17 : decode cX4_writeBurnDown 17 = .ok (.iconst 4, 1) := by decide +kernel
theorem dX4_writeBurnDown_18 : decode cX4_writeBurnDown 18 = .ok (.iaload, 1) := by decide +kernel
theorem dX4_writeBurnDown_19 : decode cX4_writeBurnDown 19 = .ok (.if_icmp .gt 42, 3) := by decide +kernel
theorem dX4_writeBurnDown_22 : decode cX4_writeBurnDown 22 = .ok (.aload_n 0, 1) := by decide +kernel
theorem dX4_writeBurnDown_23 : decode cX4_writeBurnDown 23 = .ok (.getfield 7, 3) := by decide +kernel
theorem dX4_writeBurnDown_26 : decode cX4_writeBurnDown 26 = .ok (.iconst 2, 1) := by decide +kernel
theorem dX4_writeBurnDown_27 : decode cX4_writeBurnDown 27 = .ok (.iaload, 1) := by decide +kernel
theorem dX4_writeBurnDown_28 : decode cX4_writeBurnDown 28 = .ok (.iconst 1, 1) := by decide +kernel
theorem dX4_writeBurnDown_29 : decode cX4_writeBurnDown 29 = .ok (.if_icmp .ne 32, 3) := by decide +kernel
theorem dX4_writeBurnDown_32 : decode cX4_writeBurnDown 32 = .ok (.iload_n 1, 1) := by decide +kernel
theorem dX4_writeBurnDown_33 : decode cX4_writeBurnDown 33 = .ok (.ifCond .le 9, 3) := by decide +kernel
theorem dX4_writeBurnDown_36 : decode cX4_writeBurnDown 36 = .ok (.aload_n 0, 1) := by decide +kernel
theorem dX4_writeBurnDown_37 : decode cX4_writeBurnDown 37 = .ok (.bipush 32, 2) := by decide +kernel
theorem dX4_writeBurnDown_39 : decode cX4_writeBurnDown 39 = .ok (.invokevirtual 156, 3) := by decide +kernel
theorem dX4_writeBurnDown_42 : decode cX4_writeBurnDown 42 = .ok (.aload_n 0, 1) := by decide +kernel
theorem dX4_writeBurnDown_43 : decode cX4_writeBurnDown 43 = .ok (.aload_n 0, 1) := by decide +kernel
theorem dX4_writeBurnDown_44 : decode cX4_writeBurnDown 44 = .ok (.getfield 7, 3) := by decide +kernel
theorem dX4_writeBurnDown_47 : decode cX4_writeBurnDown 47 = .ok (.bipush 104, 2) := by decide +kernel
theorem dX4_writeBurnDown_49 : decode cX4_writeBurnDown 49 = .ok (.iload_n 1, 1) := by decide +kernel
theorem dX4_writeBurnDown_50 : decode cX4_writeBurnDown 50 = .ok (.iadd, 1) := by decide +kernel
theorem dX4_writeBurnDown_51 : decode cX4_writeBurnDown 51 = .ok (.iaload, 1) := by decide +kernel
theorem dX4_writeBurnDown_52 : decode cX4_writeBurnDown 52 = .ok (.invokevirtual 153, 3) := by decide +kernel
theorem dX4_writeBurnDown_55 : decode cX4_writeBurnDown 55 = .ok (.iinc 1 1, 3) := by decide +kernel
theorem dX4_writeBurnDown_58 : decode cX4_writeBurnDown 58 = .ok (.goto (-46), 3) := by decide +kernel
theorem dX4_writeBurnDown_61 : decode cX4_writeBurnDown 61 = .ok (.aload_n 0, 1) := by decide +kernel
theorem dX4_writeBurnDown_62 : decode cX4_writeBurnDown 62 = .ok (.getfield 150, 3) := by decide +kernel
theorem dX4_writeBurnDown_65 : decode cX4_writeBurnDown 65 = .ok (.ireturn, 1) := by decide +kernel
theorem dX4_lineAt_0 : decode cX4_lineAt 0 = .ok (.aload_n 0, 1) := by decide +kernel
theorem dX4_lineAt_1 : decode cX4_lineAt 1 = .ok (.iload_n 1, 1) := by decide +kernel
theorem dX4_lineAt_2 : decode cX4_lineAt 2 = .ok (.iconst 0, 1) := by decide +kernel
theorem dX4_lineAt_3 : decode cX4_lineAt 3 = .ok (.aload_n 0, 1) := by decide +kernel
theorem dX4_lineAt_4 : decode cX4_lineAt 4 = .ok (.getfield 150, 3) := by decide +kernel
theorem dX4_lineAt_7 : decode cX4_lineAt 7 = .ok (.iconst 1, 1) := by decide +kernel
theorem dX4_lineAt_8 : decode cX4_lineAt 8 = .ok (.isub, 1) := by decide +kernel
theorem dX4_lineAt_9 : decode cX4_lineAt 9 = .ok (.invokestatic 59, 3) := by decide +kernel
theorem dX4_lineAt_12 : decode cX4_lineAt 12 = .ok (.ifCond .eq 7, 3) := by decide +kernel
theorem dX4_lineAt_15 : decode cX4_lineAt 15 = .ok (.iconst 0, 1) := by decide +kernel
theorem dX4_lineAt_16 : decode cX4_lineAt 16 = .ok (.goto 4, 3) := by decide +kernel
theorem dX4_lineAt_19 : decode cX4_lineAt 19 = .ok (.iconst 1, 1) := by decide +kernel
theorem dX4_lineAt_20 : decode cX4_lineAt 20 = .ok (.invokevirtual 89, 3) := by decide +kernel
theorem dX4_lineAt_23 : decode cX4_lineAt 23 = .ok (.ifCond .eq 8, 3) := by decide +kernel
theorem dX4_lineAt_26 : decode cX4_lineAt 26 = .ok (.bipush 32, 2) := by decide +kernel
theorem dX4_lineAt_28 : decode cX4_lineAt 28 = .ok (.goto 9, 3) := by decide +kernel
theorem dX4_lineAt_31 : decode cX4_lineAt 31 = .ok (.aload_n 0, 1) := by decide +kernel
theorem dX4_lineAt_32 : decode cX4_lineAt 32 = .ok (.getfield 32, 3) := by decide +kernel
theorem dX4_lineAt_35 : decode cX4_lineAt 35 = .ok (.iload_n 1, 1) := by decide +kernel
theorem dX4_lineAt_36 : decode cX4_lineAt 36 = .ok (.caload, 1) := by decide +kernel
theorem dX4_lineAt_37 : decode cX4_lineAt 37 = .ok (.ireturn, 1) := by decide +kernel
theorem dX4_isConsistent_0 : decode cX4_isConsistent 0 = .ok (.aload_n 0, 1) := by decide +kernel
theorem dX4_isConsistent_1 : decode cX4_isConsistent 1 = .ok (.iconst 0, 1) := by decide +kernel
theorem dX4_isConsistent_2 : decode cX4_isConsistent 2 = .ok (.putfield 45, 3) := by decide +kernel
theorem dX4_isConsistent_5 : decode cX4_isConsistent 5 = .ok (.iconst 0, 1) := by decide +kernel
theorem dX4_isConsistent_6 : decode cX4_isConsistent 6 = .ok (.istore_n 1, 1) := by decide +kernel
theorem dX4_isConsistent_7 : decode cX4_isConsistent 7 = .ok (.iload_n 1, 1) := by decide +kernel
theorem dX4_isConsistent_8 : decode cX4_isConsistent 8 = .ok (.aload_n 0, 1) := by decide +kernel
theorem dX4_isConsistent_9 : decode cX4_isConsistent 9 = .ok (.getfield 7, 3) := by decide +kernel
theorem dX4_isConsistent_12 : decode cX4_isConsistent 12 = .ok (.iconst 0, 1) := by decide +kernel
theorem dX4_isConsistent_13 : decode cX4_isConsistent 13 = .ok (.iaload, 1) := by decide +kernel
theorem dX4_isConsistent_14 : decode cX4_isConsistent 14 = .ok (.if_icmp .ge 20, 3) := by decide +kernel
theorem dX4_isConsistent_17 : decode cX4_isConsistent 17 = .ok (.aload_n 0, 1) := by decide +kernel
theorem dX4_isConsistent_18 : decode cX4_isConsistent 18 = .ok (.iload_n 1, 1) := by decide +kernel
theorem dX4_isConsistent_19 : decode cX4_isConsistent 19 = .ok (.iload_n 1, 1) := by decide +kernel
theorem dX4_isConsistent_20 : decode cX4_isConsistent 20 = .ok (.invokevirtual 106, 3) := by decide +kernel
theorem dX4_isConsistent_23 : decode cX4_isConsistent 23 = .ok (.ifCond .eq 5, 3) := by decide +kernel
theorem dX4_isConsistent_26 : decode cX4_isConsistent 26 = .ok (.iconst 0, 1) := by decide +kernel
theorem dX4_isConsistent_27 : decode cX4_isConsistent 27 = .ok (.ireturn, 1) := by decide +kernel
theorem dX4_isConsistent_28 : decode cX4_isConsistent 28 = .ok (.iinc 1 1, 3) := by decide +kernel
theorem dX4_isConsistent_31 : decode cX4_isConsistent 31 = .ok (.goto (-24), 3) := by decide +kernel
theorem dX4_isConsistent_34 : decode cX4_isConsistent 34 = .ok (.iconst 1, 1) := by decide +kernel
theorem dX4_isConsistent_35 : decode cX4_isConsistent 35 = .ok (.ireturn, 1) := by decide +kernel
theorem dX4_type_0 : decode cX4_type 0 = .ok (.aload_n 0, 1) := by decide +kernel
theorem dX4_type_1 : decode cX4_type 1 = .ok (.iload_n 1, 1) := by decide +kernel
theorem dX4_type_2 : decode cX4_type 2 = .ok (.bipush 32, 2) := by decide +kernel
theorem dX4_type_4 : decode cX4_type 4 = .ok (.bipush 126, 2) := by decide +kernel
theorem dX4_type_6 : decode cX4_type 6 = .ok (.invokestatic 59, 3) := by decide +kernel
theorem dX4_type_9 : decode cX4_type 9 = .ok (.ifCond .ne 7, 3) := by decide +kernel
theorem dX4_type_12 : decode cX4_type 12 = .ok (.iconst 1, 1) := by decide +kernel
theorem dX4_type_13 : decode cX4_type 13 = .ok (.goto 17, 3) := by decide +kernel
theorem dX4_type_16 : decode cX4_type 16 = .ok (.aload_n 0, 1) := by decide +kernel
theorem dX4_type_17 : decode cX4_type 17 = .ok (.getfield 159, 3) := by decide +kernel
theorem dX4_type_20 : decode cX4_type 20 = .ok (.bipush 60, 2) := by decide +kernel
theorem dX4_type_22 : decode cX4_type 22 = .ok (.if_icmp .ne 7, 3) := by decide +kernel
theorem dX4_type_25 : decode cX4_type 25 = .ok (.iconst 2, 1) := by decide +kernel
theorem dX4_type_26 : decode cX4_type 26 = .ok (.goto 4, 3) := by decide +kernel
theorem dX4_type_29 : decode cX4_type 29 = .ok (.iconst 0, 1) := by decide +kernel
theorem dX4_type_30 : decode cX4_type 30 = .ok (.invokevirtual 89, 3) := by decide +kernel
theorem dX4_type_33 : decode cX4_type 33 = .ok (.ifCond .eq 5, 3) := by decide +kernel
theorem dX4_type_36 : decode cX4_type 36 = .ok (.iconst 0, 1) := by decide +kernel
theorem dX4_type_37 : decode cX4_type 37 = .ok (.ireturn, 1) := by decide +kernel
theorem dX4_type_38 : decode cX4_type 38 = .ok (.aload_n 0, 1) := by decide +kernel
theorem dX4_type_39 : decode cX4_type 39 = .ok (.getfield 22, 3) := by decide +kernel
theorem dX4_type_42 : decode cX4_type 42 = .ok (.aload_n 0, 1) := by decide +kernel
theorem dX4_type_43 : decode cX4_type 43 = .ok (.getfield 159, 3) := by decide +kernel
theorem dX4_type_46 : decode cX4_type 46 = .ok (.iload_n 1, 1) := by decide +kernel
theorem dX4_type_47 : decode cX4_type 47 = .ok (.iastore, 1) := by decide +kernel
theorem dX4_type_48 : decode cX4_type 48 = .ok (.aload_n 0, 1) := by decide +kernel
theorem dX4_type_49 : decode cX4_type 49 = .ok (.dup, 1) := by decide +kernel
theorem dX4_type_50 : decode cX4_type 50 = .ok (.getfield 159, 3) := by decide +kernel
theorem dX4_type_53 : decode cX4_type 53 = .ok (.iconst 1, 1) := by decide +kernel
theorem dX4_type_54 : decode cX4_type 54 = .ok (.iadd, 1) := by decide +kernel
theorem dX4_type_55 : decode cX4_type 55 = .ok (.putfield 159, 3) := by decide +kernel
theorem dX4_type_58 : decode cX4_type 58 = .ok (.aload_n 0, 1) := by decide +kernel
theorem dX4_type_59 : decode cX4_type 59 = .ok (.getfield 159, 3) := by decide +kernel
theorem dX4_type_62 : decode cX4_type 62 = .ok (.ireturn, 1) := by decide +kernel
theorem dX4_here_0 : decode cX4_here 0 = .ok (.aload_n 0, 1) := by decide +kernel
theorem dX4_here_1 : decode cX4_here 1 = .ok (.getfield 162, 3) := by decide +kernel
theorem dX4_here_4 : decode cX4_here 4 = .ok (.aload_n 0, 1) := by decide +kernel
theorem dX4_here_5 : decode cX4_here 5 = .ok (.getfield 159, 3) := by decide +kernel
theorem dX4_here_8 : decode cX4_here 8 = .ok (.if_icmp .ge 15, 3) := by decide +kernel
theorem dX4_here_11 : decode cX4_here 11 = .ok (.aload_n 0, 1) := by decide +kernel
theorem dX4_here_12 : decode cX4_here 12 = .ok (.getfield 22, 3) := by decide +kernel
theorem dX4_here_15 : decode cX4_here 15 = .ok (.aload_n 0, 1) := by decide +kernel
theorem dX4_here_16 : decode cX4_here 16 = .ok (.getfield 162, 3) := by decide +kernel
theorem dX4_here_19 : decode cX4_here 19 = .ok (.iaload, 1) := by decide +kernel
theorem dX4_here_20 : decode cX4_here 20 = .ok (.goto 4, 3) := by decide +kernel
theorem dX4_here_23 : decode cX4_here 23 = .ok (.iconst (-1), 1) := by decide +kernel
theorem dX4_here_24 : decode cX4_here 24 = .ok (.ireturn, 1) := by decide +kernel
theorem dX4_skips_0 : decode cX4_skips 0 = .ok (.aload_n 0, 1) := by decide +kernel
theorem dX4_skips_1 : decode cX4_skips 1 = .ok (.invokevirtual 165, 3) := by decide +kernel
theorem dX4_skips_4 : decode cX4_skips 4 = .ok (.iload_n 1, 1) := by decide +kernel
theorem dX4_skips_5 : decode cX4_skips 5 = .ok (.if_icmp .eq 5, 3) := by decide +kernel
theorem dX4_skips_8 : decode cX4_skips 8 = .ok (.iconst 0, 1) := by decide +kernel
theorem dX4_skips_9 : decode cX4_skips 9 = .ok (.ireturn, 1) := by decide +kernel
theorem dX4_skips_10 : decode cX4_skips 10 = .ok (.aload_n 0, 1) := by decide +kernel
theorem dX4_skips_11 : decode cX4_skips 11 = .ok (.dup, 1) := by decide +kernel
theorem dX4_skips_12 : decode cX4_skips 12 = .ok (.getfield 162, 3) := by decide +kernel
theorem dX4_skips_15 : decode cX4_skips 15 = .ok (.iconst 1, 1) := by decide +kernel
theorem dX4_skips_16 : decode cX4_skips 16 = .ok (.iadd, 1) := by decide +kernel
theorem dX4_skips_17 : decode cX4_skips 17 = .ok (.putfield 162, 3) := by decide +kernel
theorem dX4_skips_20 : decode cX4_skips 20 = .ok (.iconst 1, 1) := by decide +kernel
theorem dX4_skips_21 : decode cX4_skips 21 = .ok (.ireturn, 1) := by decide +kernel
theorem dX4_isWord_0 : decode cX4_isWord 0 = .ok (.aload_n 0, 1) := by decide +kernel
theorem dX4_isWord_1 : decode cX4_isWord 1 = .ok (.getfield 42, 3) := by decide +kernel
theorem dX4_isWord_4 : decode cX4_isWord 4 = .ok (.iconst 4, 1) := by decide +kernel
theorem dX4_isWord_5 : decode cX4_isWord 5 = .ok (.aload_n 0, 1) := by decide +kernel
theorem dX4_isWord_6 : decode cX4_isWord 6 = .ok (.getfield 168, 3) := by decide +kernel
theorem dX4_isWord_9 : decode cX4_isWord 9 = .ok (.imul, 1) := by decide +kernel
theorem dX4_isWord_10 : decode cX4_isWord 10 = .ok (.iload_n 1, 1) := by decide +kernel
theorem dX4_isWord_11 : decode cX4_isWord 11 = .ok (.iastore, 1) := by decide +kernel
theorem dX4_isWord_12 : decode cX4_isWord 12 = .ok (.iconst 0, 1) := by decide +kernel
theorem dX4_isWord_13 : decode cX4_isWord 13 = .ok (.istore_n 3, 1) := by decide +kernel
theorem dX4_isWord_14 : decode cX4_isWord 14 = .ok (.iload_n 3, 1) := by decide +kernel
theorem dX4_isWord_15 : decode cX4_isWord 15 = .ok (.aload_n 2, 1) := by decide +kernel
theorem dX4_isWord_16 : decode cX4_isWord 16 = .ok (.invokevirtual 171, 3) := by decide +kernel
theorem dX4_isWord_19 : decode cX4_isWord 19 = .ok (.if_icmp .ge 23, 3) := by decide +kernel
theorem dX4_isWord_22 : decode cX4_isWord 22 = .ok (.aload_n 0, 1) := by decide +kernel
theorem dX4_isWord_23 : decode cX4_isWord 23 = .ok (.aload_n 2, 1) := by decide +kernel
theorem dX4_isWord_24 : decode cX4_isWord 24 = .ok (.iload_n 3, 1) := by decide +kernel
theorem dX4_isWord_25 : decode cX4_isWord 25 = .ok (.invokevirtual 175, 3) := by decide +kernel
theorem dX4_isWord_28 : decode cX4_isWord 28 = .ok (.invokevirtual 179, 3) := by decide +kernel
theorem dX4_isWord_31 : decode cX4_isWord 31 = .ok (.ifCond .ne 5, 3) := by decide +kernel
theorem dX4_isWord_34 : decode cX4_isWord 34 = .ok (.iconst 0, 1) := by decide +kernel
theorem dX4_isWord_35 : decode cX4_isWord 35 = .ok (.ireturn, 1) := by decide +kernel
theorem dX4_isWord_36 : decode cX4_isWord 36 = .ok (.iinc 3 1, 3) := by decide +kernel
theorem dX4_isWord_39 : decode cX4_isWord 39 = .ok (.goto (-25), 3) := by decide +kernel
theorem dX4_isWord_42 : decode cX4_isWord 42 = .ok (.iconst 1, 1) := by decide +kernel
theorem dX4_isWord_43 : decode cX4_isWord 43 = .ok (.ireturn, 1) := by decide +kernel
theorem dX4_figures_0 : decode cX4_figures 0 = .ok (.aload_n 0, 1) := by decide +kernel
theorem dX4_figures_1 : decode cX4_figures 1 = .ok (.bipush 32, 2) := by decide +kernel
theorem dX4_figures_3 : decode cX4_figures 3 = .ok (.invokevirtual 179, 3) := by decide +kernel
theorem dX4_figures_6 : decode cX4_figures 6 = .ok (.ifCond .eq 17, 3) := by decide +kernel
theorem dX4_figures_9 : decode cX4_figures 9 = .ok (.aload_n 0, 1) := by decide +kernel
theorem dX4_figures_10 : decode cX4_figures 10 = .ok (.invokevirtual 165, 3) := by decide +kernel
theorem dX4_figures_13 : decode cX4_figures 13 = .ok (.bipush 48, 2) := by decide +kernel
theorem dX4_figures_15 : decode cX4_figures 15 = .ok (.bipush 57, 2) := by decide +kernel
theorem dX4_figures_17 : decode cX4_figures 17 = .ok (.invokestatic 59, 3) := by decide +kernel
theorem dX4_figures_20 : decode cX4_figures 20 = .ok (.ifCond .ne 5, 3) := by decide +kernel
theorem dX4_figures_23 : decode cX4_figures 23 = .ok (.iconst 0, 1) := by decide +kernel
theorem dX4_figures_24 : decode cX4_figures 24 = .ok (.ireturn, 1) := by decide +kernel
theorem dX4_figures_25 : decode cX4_figures 25 = .ok (.aload_n 0, 1) := by decide +kernel
theorem dX4_figures_26 : decode cX4_figures 26 = .ok (.getfield 42, 3) := by decide +kernel
theorem dX4_figures_29 : decode cX4_figures 29 = .ok (.iload_n 1, 1) := by decide +kernel
theorem dX4_figures_30 : decode cX4_figures 30 = .ok (.iconst 0, 1) := by decide +kernel
theorem dX4_figures_31 : decode cX4_figures 31 = .ok (.iastore, 1) := by decide +kernel
theorem dX4_figures_32 : decode cX4_figures 32 = .ok (.iconst 0, 1) := by decide +kernel
theorem dX4_figures_33 : decode cX4_figures 33 = .ok (.istore_n 3, 1) := by decide +kernel
theorem dX4_figures_34 : decode cX4_figures 34 = .ok (.iload_n 3, 1) := by decide +kernel
theorem dX4_figures_35 : decode cX4_figures 35 = .ok (.iload_n 2, 1) := by decide +kernel
theorem dX4_figures_36 : decode cX4_figures 36 = .ok (.if_icmp .ge 56, 3) := by decide +kernel
theorem dX4_figures_39 : decode cX4_figures 39 = .ok (.aload_n 0, 1) := by decide +kernel
theorem dX4_figures_40 : decode cX4_figures 40 = .ok (.invokevirtual 165, 3) := by decide +kernel
theorem dX4_figures_43 : decode cX4_figures 43 = .ok (.bipush 48, 2) := by decide +kernel
theorem dX4_figures_45 : decode cX4_figures 45 = .ok (.bipush 57, 2) := by decide +kernel
theorem dX4_figures_47 : decode cX4_figures 47 = .ok (.invokestatic 59, 3) := by decide +kernel
theorem dX4_figures_50 : decode cX4_figures 50 = .ok (.ifCond .eq 42, 3) := by decide +kernel
theorem dX4_figures_53 : decode cX4_figures 53 = .ok (.aload_n 0, 1) := by decide +kernel
theorem dX4_figures_54 : decode cX4_figures 54 = .ok (.getfield 42, 3) := by decide +kernel
theorem dX4_figures_57 : decode cX4_figures 57 = .ok (.iload_n 1, 1) := by decide +kernel
theorem dX4_figures_58 : decode cX4_figures 58 = .ok (.bipush 10, 2) := by decide +kernel
theorem dX4_figures_60 : decode cX4_figures 60 = .ok (.aload_n 0, 1) := by decide +kernel
theorem dX4_figures_61 : decode cX4_figures 61 = .ok (.getfield 42, 3) := by decide +kernel
theorem dX4_figures_64 : decode cX4_figures 64 = .ok (.iload_n 1, 1) := by decide +kernel
theorem dX4_figures_65 : decode cX4_figures 65 = .ok (.iaload, 1) := by decide +kernel
theorem dX4_figures_66 : decode cX4_figures 66 = .ok (.imul, 1) := by decide +kernel
theorem dX4_figures_67 : decode cX4_figures 67 = .ok (.aload_n 0, 1) := by decide +kernel
theorem dX4_figures_68 : decode cX4_figures 68 = .ok (.invokevirtual 165, 3) := by decide +kernel
theorem dX4_figures_71 : decode cX4_figures 71 = .ok (.iadd, 1) := by decide +kernel
theorem dX4_figures_72 : decode cX4_figures 72 = .ok (.bipush 48, 2) := by decide +kernel
theorem dX4_figures_74 : decode cX4_figures 74 = .ok (.isub, 1) := by decide +kernel
theorem dX4_figures_75 : decode cX4_figures 75 = .ok (.iastore, 1) := by decide +kernel
theorem dX4_figures_76 : decode cX4_figures 76 = .ok (.aload_n 0, 1) := by decide +kernel
theorem dX4_figures_77 : decode cX4_figures 77 = .ok (.dup, 1) := by decide +kernel
theorem dX4_figures_78 : decode cX4_figures 78 = .ok (.getfield 162, 3) := by decide +kernel
theorem dX4_figures_81 : decode cX4_figures 81 = .ok (.iconst 1, 1) := by decide +kernel
theorem dX4_figures_82 : decode cX4_figures 82 = .ok (.iadd, 1) := by decide +kernel
theorem dX4_figures_83 : decode cX4_figures 83 = .ok (.putfield 162, 3) := by decide +kernel
theorem dX4_figures_86 : decode cX4_figures 86 = .ok (.iinc 3 1, 3) := by decide +kernel
theorem dX4_figures_89 : decode cX4_figures 89 = .ok (.goto (-55), 3) := by decide +kernel
theorem dX4_figures_92 : decode cX4_figures 92 = .ok (.iconst 1, 1) := by decide +kernel
theorem dX4_figures_93 : decode cX4_figures 93 = .ok (.ireturn, 1) := by decide +kernel
theorem dX4_bothHere_0 : decode cX4_bothHere 0 = .ok (.aload_n 0, 1) := by decide +kernel
theorem dX4_bothHere_1 : decode cX4_bothHere 1 = .ok (.iload_n 1, 1) := by decide +kernel
theorem dX4_bothHere_2 : decode cX4_bothHere 2 = .ok (.iconst 2, 1) := by decide +kernel
theorem dX4_bothHere_3 : decode cX4_bothHere 3 = .ok (.invokevirtual 182, 3) := by decide +kernel
theorem dX4_bothHere_6 : decode cX4_bothHere 6 = .ok (.ifCond .eq 18, 3) := by decide +kernel
theorem dX4_bothHere_9 : decode cX4_bothHere 9 = .ok (.aload_n 0, 1) := by decide +kernel
theorem dX4_bothHere_10 : decode cX4_bothHere 10 = .ok (.iload_n 1, 1) := by decide +kernel
theorem dX4_bothHere_11 : decode cX4_bothHere 11 = .ok (.iconst 1, 1) := by decide +kernel
theorem dX4_bothHere_12 : decode cX4_bothHere 12 = .ok (.iadd, 1) := by decide +kernel
theorem dX4_bothHere_13 : decode cX4_bothHere 13 = .ok (.iconst 2, 1) := by decide +kernel
theorem dX4_bothHere_14 : decode cX4_bothHere 14 = .ok (.invokevirtual 182, 3) := by decide +kernel
theorem dX4_bothHere_17 : decode cX4_bothHere 17 = .ok (.ifCond .eq 7, 3) := by decide +kernel
theorem dX4_bothHere_20 : decode cX4_bothHere 20 = .ok (.iconst 1, 1) := by decide +kernel
theorem dX4_bothHere_21 : decode cX4_bothHere 21 = .ok (.goto 4, 3) := by decide +kernel
theorem dX4_bothHere_24 : decode cX4_bothHere 24 = .ok (.iconst 0, 1) := by decide +kernel
theorem dX4_bothHere_25 : decode cX4_bothHere 25 = .ok (.ireturn, 1) := by decide +kernel
theorem dX4_withU_0 : decode cX4_withU 0 = .ok (.aload_n 0, 1) := by decide +kernel
theorem dX4_withU_1 : decode cX4_withU 1 = .ok (.bipush 110, 2) := by decide +kernel
theorem dX4_withU_3 : decode cX4_withU 3 = .ok (.invokevirtual 179, 3) := by decide +kernel
theorem dX4_withU_6 : decode cX4_withU 6 = .ok (.ifCond .ne 5, 3) := by decide +kernel
theorem dX4_withU_9 : decode cX4_withU 9 = .ok (.iconst 0, 1) := by decide +kernel
theorem dX4_withU_10 : decode cX4_withU 10 = .ok (.ireturn, 1) := by decide +kernel
theorem dX4_withU_11 : decode cX4_withU 11 = .ok (.aload_n 0, 1) := by decide +kernel
theorem dX4_withU_12 : decode cX4_withU 12 = .ok (.bipush 98, 2) := by decide +kernel
theorem dX4_withU_14 : decode cX4_withU 14 = .ok (.invokevirtual 179, 3) := by decide +kernel
theorem dX4_withU_17 : decode cX4_withU 17 = .ok (.ifCond .eq 27, 3) := by decide +kernel
theorem dX4_withU_20 : decode cX4_withU 20 = .ok (.aload_n 0, 1) := by decide +kernel
theorem dX4_withU_21 : decode cX4_withU 21 = .ok (.iconst 3, 1) := by decide +kernel
theorem dX4_withU_22 : decode cX4_withU 22 = .ok (.ldc 185, 2) := by decide +kernel
theorem dX4_withU_24 : decode cX4_withU 24 = .ok (.invokevirtual 187, 3) := by decide +kernel
theorem dX4_withU_27 : decode cX4_withU 27 = .ok (.ifCond .eq 15, 3) := by decide +kernel
theorem dX4_withU_30 : decode cX4_withU 30 = .ok (.aload_n 0, 1) := by decide +kernel
theorem dX4_withU_31 : decode cX4_withU 31 = .ok (.iload_n 1, 1) := by decide +kernel
theorem dX4_withU_32 : decode cX4_withU 32 = .ok (.invokevirtual 191, 3) := by decide +kernel
theorem dX4_withU_35 : decode cX4_withU 35 = .ok (.ifCond .eq 7, 3) := by decide +kernel
theorem dX4_withU_38 : decode cX4_withU 38 = .ok (.iconst 1, 1) := by decide +kernel
theorem dX4_withU_39 : decode cX4_withU 39 = .ok (.goto 4, 3) := by decide +kernel
theorem dX4_withU_42 : decode cX4_withU 42 = .ok (.iconst 0, 1) := by decide +kernel
theorem dX4_withU_43 : decode cX4_withU 43 = .ok (.ireturn, 1) := by decide +kernel
theorem dX4_withU_44 : decode cX4_withU 44 = .ok (.aload_n 0, 1) := by decide +kernel
theorem dX4_withU_45 : decode cX4_withU 45 = .ok (.bipush 112, 2) := by decide +kernel
theorem dX4_withU_47 : decode cX4_withU 47 = .ok (.invokevirtual 179, 3) := by decide +kernel
theorem dX4_withU_50 : decode cX4_withU 50 = .ok (.ifCond .eq 26, 3) := by decide +kernel
theorem dX4_withU_53 : decode cX4_withU 53 = .ok (.aload_n 0, 1) := by decide +kernel
theorem dX4_withU_54 : decode cX4_withU 54 = .ok (.iconst 5, 1) := by decide +kernel
theorem dX4_withU_55 : decode cX4_withU 55 = .ok (.ldc 194, 2) := by decide +kernel
theorem dX4_withU_57 : decode cX4_withU 57 = .ok (.invokevirtual 187, 3) := by decide +kernel
theorem dX4_withU_60 : decode cX4_withU 60 = .ok (.ifCond .eq 16, 3) := by decide +kernel
theorem dX4_withU_63 : decode cX4_withU 63 = .ok (.aload_n 0, 1) := by decide +kernel
theorem dX4_withU_64 : decode cX4_withU 64 = .ok (.iload_n 1, 1) := by decide +kernel
theorem dX4_withU_65 : decode cX4_withU 65 = .ok (.iconst 2, 1) := by decide +kernel
theorem dX4_withU_66 : decode cX4_withU 66 = .ok (.invokevirtual 182, 3) := by decide +kernel
theorem dX4_withU_69 : decode cX4_withU 69 = .ok (.ifCond .eq 7, 3) := by decide +kernel
theorem dX4_withU_72 : decode cX4_withU 72 = .ok (.iconst 1, 1) := by decide +kernel
theorem dX4_withU_73 : decode cX4_withU 73 = .ok (.goto 4, 3) := by decide +kernel
theorem dX4_withU_76 : decode cX4_withU 76 = .ok (.iconst 0, 1) := by decide +kernel
theorem dX4_withU_77 : decode cX4_withU 77 = .ok (.ireturn, 1) := by decide +kernel
theorem dX4_withS_0 : decode cX4_withS 0 = .ok (.aload_n 0, 1) := by decide +kernel
theorem dX4_withS_1 : decode cX4_withS 1 = .ok (.bipush 116, 2) := by decide +kernel
theorem dX4_withS_3 : decode cX4_withS 3 = .ok (.invokevirtual 179, 3) := by decide +kernel
theorem dX4_withS_6 : decode cX4_withS 6 = .ok (.ifCond .ne 5, 3) := by decide +kernel
theorem dX4_withS_9 : decode cX4_withS 9 = .ok (.iconst 0, 1) := by decide +kernel
theorem dX4_withS_10 : decode cX4_withS 10 = .ok (.ireturn, 1) := by decide +kernel
theorem dX4_withS_11 : decode cX4_withS 11 = .ok (.aload_n 0, 1) := by decide +kernel
theorem dX4_withS_12 : decode cX4_withS 12 = .ok (.bipush 111, 2) := by decide +kernel
theorem dX4_withS_14 : decode cX4_withS 14 = .ok (.invokevirtual 179, 3) := by decide +kernel
theorem dX4_withS_17 : decode cX4_withS 17 = .ok (.ifCond .eq 28, 3) := by decide +kernel
theorem dX4_withS_20 : decode cX4_withS 20 = .ok (.aload_n 0, 1) := by decide +kernel
theorem dX4_withS_21 : decode cX4_withS 21 = .ok (.iconst 0, 1) := by decide +kernel
theorem dX4_withS_22 : decode cX4_withS 22 = .ok (.ldc 196, 2) := by decide +kernel
theorem dX4_withS_24 : decode cX4_withS 24 = .ok (.invokevirtual 187, 3) := by decide +kernel
theorem dX4_withS_27 : decode cX4_withS 27 = .ok (.ifCond .eq 16, 3) := by decide +kernel
theorem dX4_withS_30 : decode cX4_withS 30 = .ok (.aload_n 0, 1) := by decide +kernel
theorem dX4_withS_31 : decode cX4_withS 31 = .ok (.iload_n 1, 1) := by decide +kernel
theorem dX4_withS_32 : decode cX4_withS 32 = .ok (.iconst 2, 1) := by decide +kernel
theorem dX4_withS_33 : decode cX4_withS 33 = .ok (.invokevirtual 182, 3) := by decide +kernel
theorem dX4_withS_36 : decode cX4_withS 36 = .ok (.ifCond .eq 7, 3) := by decide +kernel
theorem dX4_withS_39 : decode cX4_withS 39 = .ok (.iconst 1, 1) := by decide +kernel
theorem dX4_withS_40 : decode cX4_withS 40 = .ok (.goto 4, 3) := by decide +kernel
theorem dX4_withS_43 : decode cX4_withS 43 = .ok (.iconst 0, 1) := by decide +kernel
theorem dX4_withS_44 : decode cX4_withS 44 = .ok (.ireturn, 1) := by decide +kernel
theorem dX4_withS_45 : decode cX4_withS 45 = .ok (.aload_n 0, 1) := by decide +kernel
theorem dX4_withS_46 : decode cX4_withS 46 = .ok (.bipush 97, 2) := by decide +kernel
theorem dX4_withS_48 : decode cX4_withS 48 = .ok (.invokevirtual 179, 3) := by decide +kernel
theorem dX4_withS_51 : decode cX4_withS 51 = .ok (.ifCond .eq 27, 3) := by decide +kernel
theorem dX4_withS_54 : decode cX4_withS 54 = .ok (.aload_n 0, 1) := by decide +kernel
theorem dX4_withS_55 : decode cX4_withS 55 = .ok (.bipush 6, 2) := by decide +kernel
theorem dX4_withS_57 : decode cX4_withS 57 = .ok (.ldc 198, 2) := by decide +kernel
theorem dX4_withS_59 : decode cX4_withS 59 = .ok (.invokevirtual 187, 3) := by decide +kernel
theorem dX4_withS_62 : decode cX4_withS 62 = .ok (.ifCond .eq 16, 3) := by decide +kernel
theorem dX4_withS_65 : decode cX4_withS 65 = .ok (.aload_n 0, 1) := by decide +kernel
theorem dX4_withS_66 : decode cX4_withS 66 = .ok (.iload_n 1, 1) := by decide +kernel
theorem dX4_withS_67 : decode cX4_withS 67 = .ok (.iconst 2, 1) := by decide +kernel
theorem dX4_withS_68 : decode cX4_withS 68 = .ok (.invokevirtual 182, 3) := by decide +kernel
theorem dX4_withS_71 : decode cX4_withS 71 = .ok (.ifCond .eq 7, 3) := by decide +kernel
theorem dX4_withS_74 : decode cX4_withS 74 = .ok (.iconst 1, 1) := by decide +kernel
theorem dX4_withS_75 : decode cX4_withS 75 = .ok (.goto 4, 3) := by decide +kernel
theorem dX4_withS_78 : decode cX4_withS 78 = .ok (.iconst 0, 1) := by decide +kernel
theorem dX4_withS_79 : decode cX4_withS 79 = .ok (.ireturn, 1) := by decide +kernel
theorem dX4_commandHere_0 : decode cX4_commandHere 0 = .ok (.iconst 4, 1) := by decide +kernel
theorem dX4_commandHere_1 : decode cX4_commandHere 1 = .ok (.aload_n 0, 1) := by decide +kernel
theorem dX4_commandHere_2 : decode cX4_commandHere 2 = .ok (.getfield 168, 3) := by decide +kernel
theorem dX4_commandHere_5 : decode cX4_commandHere 5 = .ok (.imul, 1) := by decide +kernel
theorem dX4_commandHere_6 : decode cX4_commandHere 6 = .ok (.iconst 1, 1) := by decide +kernel
theorem dX4_commandHere_7 : decode cX4_commandHere 7 = .ok (.iadd, 1) := by decide +kernel
theorem dX4_commandHere_8 : decode cX4_commandHere 8 = .ok (.istore_n 1, 1) := by decide +kernel
theorem dX4_commandHere_9 : decode cX4_commandHere 9 = .ok (.aload_n 0, 1) := by decide +kernel
theorem dX4_commandHere_10 : decode cX4_commandHere 10 = .ok (.bipush 115, 2) := by decide +kernel
theorem dX4_commandHere_12 : decode cX4_commandHere 12 = .ok (.invokevirtual 179, 3) := by decide +kernel
theorem dX4_commandHere_15 : decode cX4_commandHere 15 = .ok (.ifCond .eq 9, 3) := by decide +kernel
theorem dX4_commandHere_18 : decode cX4_commandHere 18 = .ok (.aload_n 0, 1) := by decide +kernel
theorem dX4_commandHere_19 : decode cX4_commandHere 19 = .ok (.iload_n 1, 1) := by decide +kernel
theorem dX4_commandHere_20 : decode cX4_commandHere 20 = .ok (.invokevirtual 200, 3) := by decide +kernel
theorem dX4_commandHere_23 : decode cX4_commandHere 23 = .ok (.ireturn, 1) := by decide +kernel
theorem dX4_commandHere_24 : decode cX4_commandHere 24 = .ok (.aload_n 0, 1) := by decide +kernel
theorem dX4_commandHere_25 : decode cX4_commandHere 25 = .ok (.bipush 117, 2) := by decide +kernel
theorem dX4_commandHere_27 : decode cX4_commandHere 27 = .ok (.invokevirtual 179, 3) := by decide +kernel
theorem dX4_commandHere_30 : decode cX4_commandHere 30 = .ok (.ifCond .eq 9, 3) := by decide +kernel
theorem dX4_commandHere_33 : decode cX4_commandHere 33 = .ok (.aload_n 0, 1) := by decide +kernel
theorem dX4_commandHere_34 : decode cX4_commandHere 34 = .ok (.iload_n 1, 1) := by decide +kernel
theorem dX4_commandHere_35 : decode cX4_commandHere 35 = .ok (.invokevirtual 203, 3) := by decide +kernel
theorem dX4_commandHere_38 : decode cX4_commandHere 38 = .ok (.ireturn, 1) := by decide +kernel
theorem dX4_commandHere_39 : decode cX4_commandHere 39 = .ok (.aload_n 0, 1) := by decide +kernel
theorem dX4_commandHere_40 : decode cX4_commandHere 40 = .ok (.bipush 98, 2) := by decide +kernel
theorem dX4_commandHere_42 : decode cX4_commandHere 42 = .ok (.invokevirtual 179, 3) := by decide +kernel
theorem dX4_commandHere_45 : decode cX4_commandHere 45 = .ok (.ifCond .eq 27, 3) := by decide +kernel
theorem dX4_commandHere_48 : decode cX4_commandHere 48 = .ok (.aload_n 0, 1) := by decide +kernel
theorem dX4_commandHere_49 : decode cX4_commandHere 49 = .ok (.iconst 2, 1) := by decide +kernel
theorem dX4_commandHere_50 : decode cX4_commandHere 50 = .ok (.ldc 185, 2) := by decide +kernel
theorem dX4_commandHere_52 : decode cX4_commandHere 52 = .ok (.invokevirtual 187, 3) := by decide +kernel
theorem dX4_commandHere_55 : decode cX4_commandHere 55 = .ok (.ifCond .eq 15, 3) := by decide +kernel
theorem dX4_commandHere_58 : decode cX4_commandHere 58 = .ok (.aload_n 0, 1) := by decide +kernel
theorem dX4_commandHere_59 : decode cX4_commandHere 59 = .ok (.iload_n 1, 1) := by decide +kernel
theorem dX4_commandHere_60 : decode cX4_commandHere 60 = .ok (.invokevirtual 191, 3) := by decide +kernel
theorem dX4_commandHere_63 : decode cX4_commandHere 63 = .ok (.ifCond .eq 7, 3) := by decide +kernel
theorem dX4_commandHere_66 : decode cX4_commandHere 66 = .ok (.iconst 1, 1) := by decide +kernel
theorem dX4_commandHere_67 : decode cX4_commandHere 67 = .ok (.goto 4, 3) := by decide +kernel
theorem dX4_commandHere_70 : decode cX4_commandHere 70 = .ok (.iconst 0, 1) := by decide +kernel
theorem dX4_commandHere_71 : decode cX4_commandHere 71 = .ok (.ireturn, 1) := by decide +kernel
theorem dX4_commandHere_72 : decode cX4_commandHere 72 = .ok (.aload_n 0, 1) := by decide +kernel
theorem dX4_commandHere_73 : decode cX4_commandHere 73 = .ok (.bipush 97, 2) := by decide +kernel
theorem dX4_commandHere_75 : decode cX4_commandHere 75 = .ok (.invokevirtual 179, 3) := by decide +kernel
theorem dX4_commandHere_78 : decode cX4_commandHere 78 = .ok (.ifCond .eq 40, 3) := by decide +kernel
theorem dX4_commandHere_81 : decode cX4_commandHere 81 = .ok (.aload_n 0, 1) := by decide +kernel
theorem dX4_commandHere_82 : decode cX4_commandHere 82 = .ok (.bipush 7, 2) := by decide +kernel
theorem dX4_commandHere_84 : decode cX4_commandHere 84 = .ok (.ldc 206, 2) := by decide +kernel
theorem dX4_commandHere_86 : decode cX4_commandHere 86 = .ok (.invokevirtual 187, 3) := by decide +kernel
theorem dX4_commandHere_89 : decode cX4_commandHere 89 = .ok (.ifCond .eq 27, 3) := by decide +kernel
theorem dX4_commandHere_92 : decode cX4_commandHere 92 = .ok (.aload_n 0, 1) := by decide +kernel
theorem dX4_commandHere_93 : decode cX4_commandHere 93 = .ok (.iload_n 1, 1) := by decide +kernel
theorem dX4_commandHere_94 : decode cX4_commandHere 94 = .ok (.iconst 2, 1) := by decide +kernel
theorem dX4_commandHere_95 : decode cX4_commandHere 95 = .ok (.invokevirtual 182, 3) := by decide +kernel
theorem dX4_commandHere_98 : decode cX4_commandHere 98 = .ok (.ifCond .eq 18, 3) := by decide +kernel
theorem dX4_commandHere_101 : decode cX4_commandHere 101 = .ok (.aload_n 0, 1) := by decide +kernel
theorem dX4_commandHere_102 : decode cX4_commandHere 102 = .ok (.iload_n 1, 1) := by decide +kernel
theorem dX4_commandHere_103 : decode cX4_commandHere 103 = .ok (.iconst 1, 1) := by decide +kernel
theorem dX4_commandHere_104 : decode cX4_commandHere 104 = .ok (.iadd, 1) := by decide +kernel
theorem dX4_commandHere_105 : decode cX4_commandHere 105 = .ok (.iconst 1, 1) := by decide +kernel
theorem dX4_commandHere_106 : decode cX4_commandHere 106 = .ok (.invokevirtual 182, 3) := by decide +kernel
theorem dX4_commandHere_109 : decode cX4_commandHere 109 = .ok (.ifCond .eq 7, 3) := by decide +kernel
theorem dX4_commandHere_112 : decode cX4_commandHere 112 = .ok (.iconst 1, 1) := by decide +kernel
theorem dX4_commandHere_113 : decode cX4_commandHere 113 = .ok (.goto 4, 3) := by decide +kernel
theorem dX4_commandHere_116 : decode cX4_commandHere 116 = .ok (.iconst 0, 1) := by decide +kernel
theorem dX4_commandHere_117 : decode cX4_commandHere 117 = .ok (.ireturn, 1) := by decide +kernel
theorem dX4_commandHere_118 : decode cX4_commandHere 118 = .ok (.aload_n 0, 1) := by decide +kernel
theorem dX4_commandHere_119 : decode cX4_commandHere 119 = .ok (.bipush 102, 2) := by decide +kernel
theorem dX4_commandHere_121 : decode cX4_commandHere 121 = .ok (.invokevirtual 179, 3) := by decide +kernel
theorem dX4_commandHere_124 : decode cX4_commandHere 124 = .ok (.ifCond .eq 29, 3) := by decide +kernel
theorem dX4_commandHere_127 : decode cX4_commandHere 127 = .ok (.aload_n 0, 1) := by decide +kernel
theorem dX4_commandHere_128 : decode cX4_commandHere 128 = .ok (.bipush 8, 2) := by decide +kernel
theorem dX4_commandHere_130 : decode cX4_commandHere 130 = .ok (.ldc 208, 2) := by decide +kernel
theorem dX4_commandHere_132 : decode cX4_commandHere 132 = .ok (.invokevirtual 187, 3) := by decide +kernel
theorem dX4_commandHere_135 : decode cX4_commandHere 135 = .ok (.ifCond .eq 16, 3) := by decide +kernel
theorem dX4_commandHere_138 : decode cX4_commandHere 138 = .ok (.aload_n 0, 1) := by decide +kernel
theorem dX4_commandHere_139 : decode cX4_commandHere 139 = .ok (.iload_n 1, 1) := by decide +kernel
theorem dX4_commandHere_140 : decode cX4_commandHere 140 = .ok (.iconst 1, 1) := by decide +kernel
theorem dX4_commandHere_141 : decode cX4_commandHere 141 = .ok (.invokevirtual 182, 3) := by decide +kernel
theorem dX4_commandHere_144 : decode cX4_commandHere 144 = .ok (.ifCond .eq 7, 3) := by decide +kernel
theorem dX4_commandHere_147 : decode cX4_commandHere 147 = .ok (.iconst 1, 1) := by decide +kernel
theorem dX4_commandHere_148 : decode cX4_commandHere 148 = .ok (.goto 4, 3) := by decide +kernel
theorem dX4_commandHere_151 : decode cX4_commandHere 151 = .ok (.iconst 0, 1) := by decide +kernel
theorem dX4_commandHere_152 : decode cX4_commandHere 152 = .ok (.ireturn, 1) := by decide +kernel
theorem dX4_commandHere_153 : decode cX4_commandHere 153 = .ok (.aload_n 0, 1) := by decide +kernel
theorem dX4_commandHere_154 : decode cX4_commandHere 154 = .ok (.bipush 101, 2) := by decide +kernel
theorem dX4_commandHere_156 : decode cX4_commandHere 156 = .ok (.invokevirtual 179, 3) := by decide +kernel
theorem dX4_commandHere_159 : decode cX4_commandHere 159 = .ok (.ifCond .eq 12, 3) := by decide +kernel
theorem dX4_commandHere_162 : decode cX4_commandHere 162 = .ok (.aload_n 0, 1) := by decide +kernel
theorem dX4_commandHere_163 : decode cX4_commandHere 163 = .ok (.bipush 11, 2) := by decide +kernel
theorem dX4_commandHere_165 : decode cX4_commandHere 165 = .ok (.ldc 210, 2) := by decide +kernel
theorem dX4_commandHere_167 : decode cX4_commandHere 167 = .ok (.invokevirtual 187, 3) := by decide +kernel
theorem dX4_commandHere_170 : decode cX4_commandHere 170 = .ok (.ireturn, 1) := by decide +kernel
theorem dX4_commandHere_171 : decode cX4_commandHere 171 = .ok (.aload_n 0, 1) := by decide +kernel
theorem dX4_commandHere_172 : decode cX4_commandHere 172 = .ok (.bipush 100, 2) := by decide +kernel
theorem dX4_commandHere_174 : decode cX4_commandHere 174 = .ok (.invokevirtual 179, 3) := by decide +kernel
theorem dX4_commandHere_177 : decode cX4_commandHere 177 = .ok (.ifCond .eq 65, 3) := by decide +kernel
theorem dX4_commandHere_180 : decode cX4_commandHere 180 = .ok (.aload_n 0, 1) := by decide +kernel
theorem dX4_commandHere_181 : decode cX4_commandHere 181 = .ok (.bipush 101, 2) := by decide +kernel
theorem dX4_commandHere_183 : decode cX4_commandHere 183 = .ok (.invokevirtual 179, 3) := by decide +kernel
theorem dX4_commandHere_186 : decode cX4_commandHere 186 = .ok (.ifCond .eq 30, 3) := by decide +kernel
theorem dX4_commandHere_189 : decode cX4_commandHere 189 = .ok (.aload_n 0, 1) := by decide +kernel
theorem dX4_commandHere_190 : decode cX4_commandHere 190 = .ok (.iconst 1, 1) := by decide +kernel
theorem dX4_commandHere_191 : decode cX4_commandHere 191 = .ok (.ldc 212, 2) := by decide +kernel
theorem dX4_commandHere_193 : decode cX4_commandHere 193 = .ok (.invokevirtual 187, 3) := by decide +kernel
theorem dX4_commandHere_196 : decode cX4_commandHere 196 = .ok (.ifCond .eq 16, 3) := by decide +kernel
theorem dX4_commandHere_199 : decode cX4_commandHere 199 = .ok (.aload_n 0, 1) := by decide +kernel
theorem dX4_commandHere_200 : decode cX4_commandHere 200 = .ok (.iload_n 1, 1) := by decide +kernel
theorem dX4_commandHere_201 : decode cX4_commandHere 201 = .ok (.iconst 1, 1) := by decide +kernel
theorem dX4_commandHere_202 : decode cX4_commandHere 202 = .ok (.invokevirtual 182, 3) := by decide +kernel
theorem dX4_commandHere_205 : decode cX4_commandHere 205 = .ok (.ifCond .eq 7, 3) := by decide +kernel
theorem dX4_commandHere_208 : decode cX4_commandHere 208 = .ok (.iconst 1, 1) := by decide +kernel
theorem dX4_commandHere_209 : decode cX4_commandHere 209 = .ok (.goto 32, 3) := by decide +kernel
theorem dX4_commandHere_212 : decode cX4_commandHere 212 = .ok (.iconst 0, 1) := by decide +kernel
theorem dX4_commandHere_213 : decode cX4_commandHere 213 = .ok (.goto 28, 3) := by decide +kernel
theorem dX4_commandHere_216 : decode cX4_commandHere 216 = .ok (.aload_n 0, 1) := by decide +kernel
theorem dX4_commandHere_217 : decode cX4_commandHere 217 = .ok (.bipush 97, 2) := by decide +kernel
theorem dX4_commandHere_219 : decode cX4_commandHere 219 = .ok (.invokevirtual 179, 3) := by decide +kernel
theorem dX4_commandHere_222 : decode cX4_commandHere 222 = .ok (.ifCond .eq 18, 3) := by decide +kernel
theorem dX4_commandHere_225 : decode cX4_commandHere 225 = .ok (.aload_n 0, 1) := by decide +kernel
theorem dX4_commandHere_226 : decode cX4_commandHere 226 = .ok (.bipush 10, 2) := by decide +kernel
theorem dX4_commandHere_228 : decode cX4_commandHere 228 = .ok (.ldc 214, 2) := by decide +kernel
theorem dX4_commandHere_230 : decode cX4_commandHere 230 = .ok (.invokevirtual 187, 3) := by decide +kernel
theorem dX4_commandHere_233 : decode cX4_commandHere 233 = .ok (.ifCond .eq 7, 3) := by decide +kernel
theorem dX4_commandHere_236 : decode cX4_commandHere 236 = .ok (.iconst 1, 1) := by decide +kernel
theorem dX4_commandHere_237 : decode cX4_commandHere 237 = .ok (.goto 4, 3) := by decide +kernel
theorem dX4_commandHere_240 : decode cX4_commandHere 240 = .ok (.iconst 0, 1) := by decide +kernel
theorem dX4_commandHere_241 : decode cX4_commandHere 241 = .ok (.ireturn, 1) := by decide +kernel
theorem dX4_commandHere_242 : decode cX4_commandHere 242 = .ok (.aload_n 0, 1) := by decide +kernel
theorem dX4_commandHere_243 : decode cX4_commandHere 243 = .ok (.bipush 112, 2) := by decide +kernel
theorem dX4_commandHere_245 : decode cX4_commandHere 245 = .ok (.invokevirtual 179, 3) := by decide +kernel
theorem dX4_commandHere_248 : decode cX4_commandHere 248 = .ok (.ifCond .ne 5, 3) := by decide +kernel
theorem dX4_commandHere_251 : decode cX4_commandHere 251 = .ok (.iconst 0, 1) := by decide +kernel
theorem dX4_commandHere_252 : decode cX4_commandHere 252 = .ok (.ireturn, 1) := by decide +kernel
theorem dX4_commandHere_253 : decode cX4_commandHere 253 = .ok (.aload_n 0, 1) := by decide +kernel
theorem dX4_commandHere_254 : decode cX4_commandHere 254 = .ok (.bipush 108, 2) := by decide +kernel
theorem dX4_commandHere_256 : decode cX4_commandHere 256 = .ok (.invokevirtual 179, 3) := by decide +kernel
theorem dX4_commandHere_259 : decode cX4_commandHere 259 = .ok (.ifCond .eq 28, 3) := by decide +kernel
theorem dX4_commandHere_262 : decode cX4_commandHere 262 = .ok (.aload_n 0, 1) := by decide +kernel
theorem dX4_commandHere_263 : decode cX4_commandHere 263 = .ok (.iconst 4, 1) := by decide +kernel
theorem dX4_commandHere_264 : decode cX4_commandHere 264 = .ok (.ldc 216, 2) := by decide +kernel
theorem dX4_commandHere_266 : decode cX4_commandHere 266 = .ok (.invokevirtual 187, 3) := by decide +kernel
theorem dX4_commandHere_269 : decode cX4_commandHere 269 = .ok (.ifCond .eq 16, 3) := by decide +kernel
theorem dX4_commandHere_272 : decode cX4_commandHere 272 = .ok (.aload_n 0, 1) := by decide +kernel
theorem dX4_commandHere_273 : decode cX4_commandHere 273 = .ok (.iload_n 1, 1) := by decide +kernel
theorem dX4_commandHere_274 : decode cX4_commandHere 274 = .ok (.iconst 2, 1) := by decide +kernel
theorem dX4_commandHere_275 : decode cX4_commandHere 275 = .ok (.invokevirtual 182, 3) := by decide +kernel
theorem dX4_commandHere_278 : decode cX4_commandHere 278 = .ok (.ifCond .eq 7, 3) := by decide +kernel
theorem dX4_commandHere_281 : decode cX4_commandHere 281 = .ok (.iconst 1, 1) := by decide +kernel
theorem dX4_commandHere_282 : decode cX4_commandHere 282 = .ok (.goto 4, 3) := by decide +kernel
theorem dX4_commandHere_285 : decode cX4_commandHere 285 = .ok (.iconst 0, 1) := by decide +kernel
theorem dX4_commandHere_286 : decode cX4_commandHere 286 = .ok (.ireturn, 1) := by decide +kernel
theorem dX4_commandHere_287 : decode cX4_commandHere 287 = .ok (.aload_n 0, 1) := by decide +kernel
theorem dX4_commandHere_288 : decode cX4_commandHere 288 = .ok (.bipush 111, 2) := by decide +kernel
theorem dX4_commandHere_290 : decode cX4_commandHere 290 = .ok (.invokevirtual 179, 3) := by decide +kernel
theorem dX4_commandHere_293 : decode cX4_commandHere 293 = .ok (.ifCond .eq 26, 3) := by decide +kernel
theorem dX4_commandHere_296 : decode cX4_commandHere 296 = .ok (.aload_n 0, 1) := by decide +kernel
theorem dX4_commandHere_297 : decode cX4_commandHere 297 = .ok (.bipush 9, 2) := by decide +kernel
theorem dX4_commandHere_299 : decode cX4_commandHere 299 = .ok (.ldc 218, 2) := by decide +kernel
theorem dX4_commandHere_301 : decode cX4_commandHere 301 = .ok (.invokevirtual 187, 3) := by decide +kernel
theorem dX4_commandHere_304 : decode cX4_commandHere 304 = .ok (.ifCond .eq 15, 3) := by decide +kernel
theorem dX4_commandHere_307 : decode cX4_commandHere 307 = .ok (.aload_n 0, 1) := by decide +kernel
theorem dX4_commandHere_308 : decode cX4_commandHere 308 = .ok (.iload_n 1, 1) := by decide +kernel
theorem dX4_commandHere_309 : decode cX4_commandHere 309 = .ok (.invokevirtual 191, 3) := by decide +kernel
theorem dX4_commandHere_312 : decode cX4_commandHere 312 = .ok (.ifCond .eq 7, 3) := by decide +kernel
theorem dX4_commandHere_315 : decode cX4_commandHere 315 = .ok (.iconst 1, 1) := by decide +kernel
theorem dX4_commandHere_316 : decode cX4_commandHere 316 = .ok (.goto 4, 3) := by decide +kernel
theorem dX4_commandHere_319 : decode cX4_commandHere 319 = .ok (.iconst 0, 1) := by decide +kernel
theorem dX4_commandHere_320 : decode cX4_commandHere 320 = .ok (.ireturn, 1) := by decide +kernel
theorem dX4_isText_0 : decode cX4_isText 0 = .ok (.aload_n 0, 1) := by decide +kernel
theorem dX4_isText_1 : decode cX4_isText 1 = .ok (.iconst 0, 1) := by decide +kernel
theorem dX4_isText_2 : decode cX4_isText 2 = .ok (.putfield 162, 3) := by decide +kernel
theorem dX4_isText_5 : decode cX4_isText 5 = .ok (.aload_n 0, 1) := by decide +kernel
theorem dX4_isText_6 : decode cX4_isText 6 = .ok (.iconst 0, 1) := by decide +kernel
theorem dX4_isText_7 : decode cX4_isText 7 = .ok (.putfield 168, 3) := by decide +kernel
theorem dX4_isText_10 : decode cX4_isText 10 = .ok (.aload_n 0, 1) := by decide +kernel
theorem dX4_isText_11 : decode cX4_isText 11 = .ok (.invokevirtual 220, 3) := by decide +kernel
theorem dX4_isText_14 : decode cX4_isText 14 = .ok (.ifCond .ne 5, 3) := by decide +kernel
theorem dX4_isText_17 : decode cX4_isText 17 = .ok (.iconst 0, 1) := by decide +kernel
theorem dX4_isText_18 : decode cX4_isText 18 = .ok (.ireturn, 1) := by decide +kernel
theorem dX4_isText_19 : decode cX4_isText 19 = .ok (.aload_n 0, 1) := by decide +kernel
theorem dX4_isText_20 : decode cX4_isText 20 = .ok (.dup, 1) := by decide +kernel
theorem dX4_isText_21 : decode cX4_isText 21 = .ok (.getfield 168, 3) := by decide +kernel
theorem dX4_isText_24 : decode cX4_isText 24 = .ok (.iconst 1, 1) := by decide +kernel
theorem dX4_isText_25 : decode cX4_isText 25 = .ok (.iadd, 1) := by decide +kernel
theorem dX4_isText_26 : decode cX4_isText 26 = .ok (.putfield 168, 3) := by decide +kernel
theorem dX4_isText_29 : decode cX4_isText 29 = .ok (.aload_n 0, 1) := by decide +kernel
theorem dX4_isText_30 : decode cX4_isText 30 = .ok (.bipush 59, 2) := by decide +kernel
theorem dX4_isText_32 : decode cX4_isText 32 = .ok (.invokevirtual 179, 3) := by decide +kernel
theorem dX4_isText_35 : decode cX4_isText 35 = .ok (.ifCond .ne (-25), 3) := by decide +kernel
theorem dX4_isText_38 : decode cX4_isText 38 = .ok (.aload_n 0, 1) := by decide +kernel
theorem dX4_isText_39 : decode cX4_isText 39 = .ok (.getfield 162, 3) := by decide +kernel
theorem dX4_isText_42 : decode cX4_isText 42 = .ok (.aload_n 0, 1) := by decide +kernel
theorem dX4_isText_43 : decode cX4_isText 43 = .ok (.getfield 159, 3) := by decide +kernel
theorem dX4_isText_46 : decode cX4_isText 46 = .ok (.if_icmp .ne 7, 3) := by decide +kernel
theorem dX4_isText_49 : decode cX4_isText 49 = .ok (.iconst 1, 1) := by decide +kernel
theorem dX4_isText_50 : decode cX4_isText 50 = .ok (.goto 4, 3) := by decide +kernel
theorem dX4_isText_53 : decode cX4_isText 53 = .ok (.iconst 0, 1) := by decide +kernel
theorem dX4_isText_54 : decode cX4_isText 54 = .ok (.ireturn, 1) := by decide +kernel
theorem dX4_carries_0 : decode cX4_carries 0 = .ok (.aload_n 0, 1) := by decide +kernel
theorem dX4_carries_1 : decode cX4_carries 1 = .ok (.getfield 42, 3) := by decide +kernel
theorem dX4_carries_4 : decode cX4_carries 4 = .ok (.iload_n 1, 1) := by decide +kernel
theorem dX4_carries_5 : decode cX4_carries 5 = .ok (.iconst 1, 1) := by decide +kernel
theorem dX4_carries_6 : decode cX4_carries 6 = .ok (.iadd, 1) := by decide +kernel
theorem dX4_carries_7 : decode cX4_carries 7 = .ok (.iaload, 1) := by decide +kernel
theorem dX4_carries_8 : decode cX4_carries 8 = .ok (.istore_n 2, 1) := by decide +kernel
theorem dX4_carries_9 : decode cX4_carries 9 = .ok (.aload_n 0, 1) := by decide +kernel
theorem dX4_carries_10 : decode cX4_carries 10 = .ok (.getfield 42, 3) := by decide +kernel
theorem dX4_carries_13 : decode cX4_carries 13 = .ok (.iload_n 1, 1) := by decide +kernel
theorem dX4_carries_14 : decode cX4_carries 14 = .ok (.iconst 2, 1) := by decide +kernel
theorem dX4_carries_15 : decode cX4_carries 15 = .ok (.iadd, 1) := by decide +kernel
theorem dX4_carries_16 : decode cX4_carries 16 = .ok (.iaload, 1) := by decide +kernel
theorem dX4_carries_17 : decode cX4_carries 17 = .ok (.istore_n 3, 1) := by decide +kernel
theorem dX4_carries_18 : decode cX4_carries 18 = .ok (.aload_n 0, 1) := by decide +kernel
theorem dX4_carries_19 : decode cX4_carries 19 = .ok (.getfield 42, 3) := by decide +kernel
theorem dX4_carries_22 : decode cX4_carries 22 = .ok (.iload_n 1, 1) := by decide +kernel
theorem dX4_carries_23 : decode cX4_carries 23 = .ok (.iaload, 1) := by decide +kernel
theorem dX4_carries_24 : decode cX4_carries 24 = .ok (.tableswitch 137 0 10 #[60, 66, 72, 79, 86, 92, 98, 104, 119, 125, 132], 60) := by decide +kernel
theorem dX4_carries_84 : decode cX4_carries 84 = .ok (.aload_n 0, 1) := by decide +kernel
theorem dX4_carries_85 : decode cX4_carries 85 = .ok (.iload_n 2, 1) := by decide +kernel
theorem dX4_carries_86 : decode cX4_carries 86 = .ok (.invokevirtual 223, 3) := by decide +kernel
theorem dX4_carries_89 : decode cX4_carries 89 = .ok (.ireturn, 1) := by decide +kernel
theorem dX4_carries_90 : decode cX4_carries 90 = .ok (.aload_n 0, 1) := by decide +kernel
theorem dX4_carries_91 : decode cX4_carries 91 = .ok (.iload_n 2, 1) := by decide +kernel
theorem dX4_carries_92 : decode cX4_carries 92 = .ok (.invokevirtual 226, 3) := by decide +kernel
theorem dX4_carries_95 : decode cX4_carries 95 = .ok (.ireturn, 1) := by decide +kernel
theorem dX4_carries_96 : decode cX4_carries 96 = .ok (.aload_n 0, 1) := by decide +kernel
theorem dX4_carries_97 : decode cX4_carries 97 = .ok (.iload_n 2, 1) := by decide +kernel
theorem dX4_carries_98 : decode cX4_carries 98 = .ok (.iload_n 3, 1) := by decide +kernel
theorem dX4_carries_99 : decode cX4_carries 99 = .ok (.invokevirtual 229, 3) := by decide +kernel
theorem dX4_carries_102 : decode cX4_carries 102 = .ok (.ireturn, 1) := by decide +kernel
theorem dX4_carries_103 : decode cX4_carries 103 = .ok (.aload_n 0, 1) := by decide +kernel
theorem dX4_carries_104 : decode cX4_carries 104 = .ok (.iload_n 2, 1) := by decide +kernel
theorem dX4_carries_105 : decode cX4_carries 105 = .ok (.iload_n 3, 1) := by decide +kernel
theorem dX4_carries_106 : decode cX4_carries 106 = .ok (.invokevirtual 232, 3) := by decide +kernel
theorem dX4_carries_109 : decode cX4_carries 109 = .ok (.ireturn, 1) := by decide +kernel
theorem dX4_carries_110 : decode cX4_carries 110 = .ok (.aload_n 0, 1) := by decide +kernel
theorem dX4_carries_111 : decode cX4_carries 111 = .ok (.iload_n 2, 1) := by decide +kernel
theorem dX4_carries_112 : decode cX4_carries 112 = .ok (.invokevirtual 235, 3) := by decide +kernel
theorem dX4_carries_115 : decode cX4_carries 115 = .ok (.ireturn, 1) := by decide +kernel
theorem dX4_carries_116 : decode cX4_carries 116 = .ok (.aload_n 0, 1) := by decide +kernel
theorem dX4_carries_117 : decode cX4_carries 117 = .ok (.iload_n 2, 1) := by decide +kernel
theorem dX4_carries_118 : decode cX4_carries 118 = .ok (.invokevirtual 238, 3) := by decide +kernel
theorem dX4_carries_121 : decode cX4_carries 121 = .ok (.ireturn, 1) := by decide +kernel
theorem dX4_carries_122 : decode cX4_carries 122 = .ok (.aload_n 0, 1) := by decide +kernel
theorem dX4_carries_123 : decode cX4_carries 123 = .ok (.iload_n 2, 1) := by decide +kernel
theorem dX4_carries_124 : decode cX4_carries 124 = .ok (.invokevirtual 241, 3) := by decide +kernel
theorem dX4_carries_127 : decode cX4_carries 127 = .ok (.ireturn, 1) := by decide +kernel
theorem dX4_carries_128 : decode cX4_carries 128 = .ok (.aload_n 0, 1) := by decide +kernel
theorem dX4_carries_129 : decode cX4_carries 129 = .ok (.iload_n 2, 1) := by decide +kernel
theorem dX4_carries_130 : decode cX4_carries 130 = .ok (.iload_n 3, 1) := by decide +kernel
theorem dX4_carries_131 : decode cX4_carries 131 = .ok (.invokevirtual 244, 3) := by decide +kernel
theorem dX4_carries_134 : decode cX4_carries 134 = .ok (.ifCond .eq 7, 3) := by decide +kernel
theorem dX4_carries_137 : decode cX4_carries 137 = .ok (.iconst 1, 1) := by decide +kernel
theorem dX4_carries_138 : decode cX4_carries 138 = .ok (.goto 4, 3) := by decide +kernel
theorem dX4_carries_141 : decode cX4_carries 141 = .ok (.iconst 0, 1) := by decide +kernel
theorem dX4_carries_142 : decode cX4_carries 142 = .ok (.ireturn, 1) := by decide +kernel
theorem dX4_carries_143 : decode cX4_carries 143 = .ok (.aload_n 0, 1) := by decide +kernel
theorem dX4_carries_144 : decode cX4_carries 144 = .ok (.iload_n 2, 1) := by decide +kernel
theorem dX4_carries_145 : decode cX4_carries 145 = .ok (.invokevirtual 247, 3) := by decide +kernel
theorem dX4_carries_148 : decode cX4_carries 148 = .ok (.ireturn, 1) := by decide +kernel
theorem dX4_carries_149 : decode cX4_carries 149 = .ok (.aload_n 0, 1) := by decide +kernel
theorem dX4_carries_150 : decode cX4_carries 150 = .ok (.iload_n 2, 1) := by decide +kernel
theorem dX4_carries_151 : decode cX4_carries 151 = .ok (.iload_n 3, 1) := by decide +kernel
theorem dX4_carries_152 : decode cX4_carries 152 = .ok (.invokevirtual 250, 3) := by decide +kernel
theorem dX4_carries_155 : decode cX4_carries 155 = .ok (.ireturn, 1) := by decide +kernel
theorem dX4_carries_156 : decode cX4_carries 156 = .ok (.aload_n 0, 1) := by decide +kernel
theorem dX4_carries_157 : decode cX4_carries 157 = .ok (.invokevirtual 253, 3) := by decide +kernel
theorem dX4_carries_160 : decode cX4_carries 160 = .ok (.ireturn, 1) := by decide +kernel
theorem dX4_carries_161 : decode cX4_carries 161 = .ok (.aload_n 0, 1) := by decide +kernel
theorem dX4_carries_162 : decode cX4_carries 162 = .ok (.invokevirtual 256, 3) := by decide +kernel
theorem dX4_carries_165 : decode cX4_carries 165 = .ok (.ireturn, 1) := by decide +kernel
theorem dX4_execute_0 : decode cX4_execute 0 = .ok (.aload_n 0, 1) := by decide +kernel
theorem dX4_execute_1 : decode cX4_execute 1 = .ok (.invokevirtual 259, 3) := by decide +kernel
theorem dX4_execute_4 : decode cX4_execute 4 = .ok (.istore_n 1, 1) := by decide +kernel
theorem dX4_execute_5 : decode cX4_execute 5 = .ok (.iload_n 1, 1) := by decide +kernel
theorem dX4_execute_6 : decode cX4_execute 6 = .ok (.ifCond .ne 11, 3) := by decide +kernel
theorem dX4_execute_9 : decode cX4_execute 9 = .ok (.aload_n 0, 1) := by decide +kernel
theorem dX4_execute_10 : decode cX4_execute 10 = .ok (.aload_n 0, 1) := by decide +kernel
theorem dX4_execute_11 : decode cX4_execute 11 = .ok (.getfield 162, 3) := by decide +kernel
theorem dX4_execute_14 : decode cX4_execute 14 = .ok (.putfield 25, 3) := by decide +kernel
theorem dX4_execute_17 : decode cX4_execute 17 = .ok (.aload_n 0, 1) := by decide +kernel
theorem dX4_execute_18 : decode cX4_execute 18 = .ok (.iconst 0, 1) := by decide +kernel
theorem dX4_execute_19 : decode cX4_execute 19 = .ok (.putfield 159, 3) := by decide +kernel
theorem dX4_execute_22 : decode cX4_execute 22 = .ok (.aload_n 0, 1) := by decide +kernel
theorem dX4_execute_23 : decode cX4_execute 23 = .ok (.iload_n 1, 1) := by decide +kernel
theorem dX4_execute_24 : decode cX4_execute 24 = .ok (.ifCond .eq 7, 3) := by decide +kernel
theorem dX4_execute_27 : decode cX4_execute 27 = .ok (.iconst 0, 1) := by decide +kernel
theorem dX4_execute_28 : decode cX4_execute 28 = .ok (.goto 4, 3) := by decide +kernel
theorem dX4_execute_31 : decode cX4_execute 31 = .ok (.iconst 1, 1) := by decide +kernel
theorem dX4_execute_32 : decode cX4_execute 32 = .ok (.invokevirtual 89, 3) := by decide +kernel
theorem dX4_execute_35 : decode cX4_execute 35 = .ok (.ifCond .eq 5, 3) := by decide +kernel
theorem dX4_execute_38 : decode cX4_execute 38 = .ok (.iconst 0, 1) := by decide +kernel
theorem dX4_execute_39 : decode cX4_execute 39 = .ok (.ireturn, 1) := by decide +kernel
theorem dX4_execute_40 : decode cX4_execute 40 = .ok (.aload_n 0, 1) := by decide +kernel
theorem dX4_execute_41 : decode cX4_execute 41 = .ok (.getfield 7, 3) := by decide +kernel
theorem dX4_execute_44 : decode cX4_execute 44 = .ok (.iconst 0, 1) := by decide +kernel
theorem dX4_execute_45 : decode cX4_execute 45 = .ok (.aload_n 0, 1) := by decide +kernel
theorem dX4_execute_46 : decode cX4_execute 46 = .ok (.getfield 19, 3) := by decide +kernel
theorem dX4_execute_49 : decode cX4_execute 49 = .ok (.iconst 0, 1) := by decide +kernel
theorem dX4_execute_50 : decode cX4_execute 50 = .ok (.invokestatic 55, 3) := by decide +kernel
theorem dX4_execute_53 : decode cX4_execute 53 = .ok (.aload_n 0, 1) := by decide +kernel
theorem dX4_execute_54 : decode cX4_execute 54 = .ok (.iconst 1, 1) := by decide +kernel
theorem dX4_execute_55 : decode cX4_execute 55 = .ok (.putfield 48, 3) := by decide +kernel
theorem dX4_execute_58 : decode cX4_execute 58 = .ok (.iconst 0, 1) := by decide +kernel
theorem dX4_execute_59 : decode cX4_execute 59 = .ok (.istore_n 2, 1) := by decide +kernel
theorem dX4_execute_60 : decode cX4_execute 60 = .ok (.iconst 0, 1) := by decide +kernel
theorem dX4_execute_61 : decode cX4_execute 61 = .ok (.istore_n 3, 1) := by decide +kernel
theorem dX4_execute_62 : decode cX4_execute 62 = .ok (.iload_n 2, 1) := by decide +kernel
theorem dX4_execute_63 : decode cX4_execute 63 = .ok (.aload_n 0, 1) := by decide +kernel
theorem dX4_execute_64 : decode cX4_execute 64 = .ok (.getfield 168, 3) := by decide +kernel
theorem dX4_execute_67 : decode cX4_execute 67 = .ok (.if_icmp .ge 31, 3) := by decide +kernel
theorem dX4_execute_70 : decode cX4_execute 70 = .ok (.aload_n 0, 1) := by decide +kernel
theorem dX4_execute_71 : decode cX4_execute 71 = .ok (.getfield 45, 3) := by decide +kernel
theorem dX4_execute_74 : decode cX4_execute 74 = .ok (.ifCond .ne 24, 3) := by decide +kernel
theorem dX4_execute_77 : decode cX4_execute 77 = .ok (.aload_n 0, 1) := by decide +kernel
theorem dX4_execute_78 : decode cX4_execute 78 = .ok (.iconst 4, 1) := by decide +kernel
theorem dX4_execute_79 : decode cX4_execute 79 = .ok (.iload_n 2, 1) := by decide +kernel
theorem dX4_execute_80 : decode cX4_execute 80 = .ok (.imul, 1) := by decide +kernel
theorem dX4_execute_81 : decode cX4_execute 81 = .ok (.invokevirtual 262, 3) := by decide +kernel
theorem dX4_execute_84 : decode cX4_execute 84 = .ok (.istore_n 3, 1) := by decide +kernel
theorem dX4_execute_85 : decode cX4_execute 85 = .ok (.aload_n 0, 1) := by decide +kernel
theorem dX4_execute_86 : decode cX4_execute 86 = .ok (.getfield 45, 3) := by decide +kernel
theorem dX4_execute_89 : decode cX4_execute 89 = .ok (.ifCond .ne (-27), 3) := by decide +kernel
theorem dX4_execute_92 : decode cX4_execute 92 = .ok (.iinc 2 1, 3) := by decide +kernel
theorem dX4_execute_95 : decode cX4_execute 95 = .ok (.goto (-33), 3) := by decide +kernel
theorem dX4_execute_98 : decode cX4_execute 98 = .ok (.aload_n 0, 1) := by decide +kernel
theorem dX4_execute_99 : decode cX4_execute 99 = .ok (.iconst 0, 1) := by decide +kernel
theorem dX4_execute_100 : decode cX4_execute 100 = .ok (.putfield 48, 3) := by decide +kernel
theorem dX4_execute_103 : decode cX4_execute 103 = .ok (.aload_n 0, 1) := by decide +kernel
theorem dX4_execute_104 : decode cX4_execute 104 = .ok (.getfield 45, 3) := by decide +kernel
theorem dX4_execute_107 : decode cX4_execute 107 = .ok (.ifCond .le 36, 3) := by decide +kernel
theorem dX4_execute_110 : decode cX4_execute 110 = .ok (.aload_n 0, 1) := by decide +kernel
theorem dX4_execute_111 : decode cX4_execute 111 = .ok (.getfield 19, 3) := by decide +kernel
theorem dX4_execute_114 : decode cX4_execute 114 = .ok (.iconst 0, 1) := by decide +kernel
theorem dX4_execute_115 : decode cX4_execute 115 = .ok (.aload_n 0, 1) := by decide +kernel
theorem dX4_execute_116 : decode cX4_execute 116 = .ok (.getfield 7, 3) := by decide +kernel
theorem dX4_execute_119 : decode cX4_execute 119 = .ok (.iconst 0, 1) := by decide +kernel
theorem dX4_execute_120 : decode cX4_execute 120 = .ok (.invokestatic 55, 3) := by decide +kernel
theorem dX4_execute_123 : decode cX4_execute 123 = .ok (.aload_n 0, 1) := by decide +kernel
theorem dX4_execute_124 : decode cX4_execute 124 = .ok (.iload_n 2, 1) := by decide +kernel
theorem dX4_execute_125 : decode cX4_execute 125 = .ok (.putfield 29, 3) := by decide +kernel
theorem dX4_execute_128 : decode cX4_execute 128 = .ok (.aload_n 0, 1) := by decide +kernel
theorem dX4_execute_129 : decode cX4_execute 129 = .ok (.iconst 2, 1) := by decide +kernel
theorem dX4_execute_130 : decode cX4_execute 130 = .ok (.putfield 45, 3) := by decide +kernel
theorem dX4_execute_133 : decode cX4_execute 133 = .ok (.iload_n 3, 1) := by decide +kernel
theorem dX4_execute_134 : decode cX4_execute 134 = .ok (.ifCond .le 7, 3) := by decide +kernel
theorem dX4_execute_137 : decode cX4_execute 137 = .ok (.iconst 0, 1) := by decide +kernel
theorem dX4_execute_138 : decode cX4_execute 138 = .ok (.goto 4, 3) := by decide +kernel
theorem dX4_execute_141 : decode cX4_execute 141 = .ok (.iload_n 3, 1) := by decide +kernel
theorem dX4_execute_142 : decode cX4_execute 142 = .ok (.ireturn, 1) := by decide +kernel
theorem dX4_execute_143 : decode cX4_execute 143 = .ok (.aload_n 0, 1) := by decide +kernel
theorem dX4_execute_144 : decode cX4_execute 144 = .ok (.aload_n 0, 1) := by decide +kernel
theorem dX4_execute_145 : decode cX4_execute 145 = .ok (.getfield 19, 3) := by decide +kernel
theorem dX4_execute_148 : decode cX4_execute 148 = .ok (.invokevirtual 92, 3) := by decide +kernel
theorem dX4_execute_151 : decode cX4_execute 151 = .ok (.aload_n 0, 1) := by decide +kernel
theorem dX4_execute_152 : decode cX4_execute 152 = .ok (.getfield 168, 3) := by decide +kernel
theorem dX4_execute_155 : decode cX4_execute 155 = .ok (.ireturn, 1) := by decide +kernel
theorem dX4_errorPosition_0 : decode cX4_errorPosition 0 = .ok (.aload_n 0, 1) := by decide +kernel
theorem dX4_errorPosition_1 : decode cX4_errorPosition 1 = .ok (.aload_n 0, 1) := by decide +kernel
theorem dX4_errorPosition_2 : decode cX4_errorPosition 2 = .ok (.getfield 25, 3) := by decide +kernel
theorem dX4_errorPosition_5 : decode cX4_errorPosition 5 = .ok (.ifCond .ge 7, 3) := by decide +kernel
theorem dX4_errorPosition_8 : decode cX4_errorPosition 8 = .ok (.iconst 1, 1) := by decide +kernel
theorem dX4_errorPosition_9 : decode cX4_errorPosition 9 = .ok (.goto 4, 3) := by decide +kernel
theorem dX4_errorPosition_12 : decode cX4_errorPosition 12 = .ok (.iconst 0, 1) := by decide +kernel
theorem dX4_errorPosition_13 : decode cX4_errorPosition 13 = .ok (.invokevirtual 89, 3) := by decide +kernel
theorem dX4_errorPosition_16 : decode cX4_errorPosition 16 = .ok (.ifCond .eq 7, 3) := by decide +kernel
theorem dX4_errorPosition_19 : decode cX4_errorPosition 19 = .ok (.iconst 0, 1) := by decide +kernel
theorem dX4_errorPosition_20 : decode cX4_errorPosition 20 = .ok (.goto 7, 3) := by decide +kernel
theorem dX4_errorPosition_23 : decode cX4_errorPosition 23 = .ok (.aload_n 0, 1) := by decide +kernel
theorem dX4_errorPosition_24 : decode cX4_errorPosition 24 = .ok (.getfield 25, 3) := by decide +kernel
theorem dX4_errorPosition_27 : decode cX4_errorPosition 27 = .ok (.ireturn, 1) := by decide +kernel
theorem dX4_failedCommand_0 : decode cX4_failedCommand 0 = .ok (.aload_n 0, 1) := by decide +kernel
theorem dX4_failedCommand_1 : decode cX4_failedCommand 1 = .ok (.aload_n 0, 1) := by decide +kernel
theorem dX4_failedCommand_2 : decode cX4_failedCommand 2 = .ok (.getfield 29, 3) := by decide +kernel
theorem dX4_failedCommand_5 : decode cX4_failedCommand 5 = .ok (.ifCond .ge 7, 3) := by decide +kernel
theorem dX4_failedCommand_8 : decode cX4_failedCommand 8 = .ok (.iconst 1, 1) := by decide +kernel
theorem dX4_failedCommand_9 : decode cX4_failedCommand 9 = .ok (.goto 4, 3) := by decide +kernel
theorem dX4_failedCommand_12 : decode cX4_failedCommand 12 = .ok (.iconst 0, 1) := by decide +kernel
theorem dX4_failedCommand_13 : decode cX4_failedCommand 13 = .ok (.invokevirtual 89, 3) := by decide +kernel
theorem dX4_failedCommand_16 : decode cX4_failedCommand 16 = .ok (.ifCond .eq 7, 3) := by decide +kernel
theorem dX4_failedCommand_19 : decode cX4_failedCommand 19 = .ok (.iconst 0, 1) := by decide +kernel
theorem dX4_failedCommand_20 : decode cX4_failedCommand 20 = .ok (.goto 7, 3) := by decide +kernel
theorem dX4_failedCommand_23 : decode cX4_failedCommand 23 = .ok (.aload_n 0, 1) := by decide +kernel
theorem dX4_failedCommand_24 : decode cX4_failedCommand 24 = .ok (.getfield 29, 3) := by decide +kernel
theorem dX4_failedCommand_27 : decode cX4_failedCommand 27 = .ok (.ireturn, 1) := by decide +kernel
theorem dX4_undo_0 : decode cX4_undo 0 = .ok (.aload_n 0, 1) := by decide +kernel
theorem dX4_undo_1 : decode cX4_undo 1 = .ok (.aload_n 0, 1) := by decide +kernel
theorem dX4_undo_2 : decode cX4_undo 2 = .ok (.getfield 52, 3) := by decide +kernel
theorem dX4_undo_5 : decode cX4_undo 5 = .ok (.ifCond .ne 7, 3) := by decide +kernel
theorem dX4_undo_8 : decode cX4_undo 8 = .ok (.iconst 1, 1) := by decide +kernel
theorem dX4_undo_9 : decode cX4_undo 9 = .ok (.goto 4, 3) := by decide +kernel
theorem dX4_undo_12 : decode cX4_undo 12 = .ok (.iconst 0, 1) := by decide +kernel
theorem dX4_undo_13 : decode cX4_undo 13 = .ok (.invokevirtual 89, 3) := by decide +kernel
theorem dX4_undo_16 : decode cX4_undo 16 = .ok (.ifCond .eq 5, 3) := by decide +kernel
theorem dX4_undo_19 : decode cX4_undo 19 = .ok (.iconst 0, 1) := by decide +kernel
theorem dX4_undo_20 : decode cX4_undo 20 = .ok (.ireturn, 1) := by decide +kernel
theorem dX4_undo_21 : decode cX4_undo 21 = .ok (.aload_n 0, 1) := by decide +kernel
theorem dX4_undo_22 : decode cX4_undo 22 = .ok (.dup, 1) := by decide +kernel
theorem dX4_undo_23 : decode cX4_undo 23 = .ok (.getfield 52, 3) := by decide +kernel
theorem dX4_undo_26 : decode cX4_undo 26 = .ok (.iconst 1, 1) := by decide +kernel
theorem dX4_undo_27 : decode cX4_undo 27 = .ok (.isub, 1) := by decide +kernel
theorem dX4_undo_28 : decode cX4_undo 28 = .ok (.putfield 52, 3) := by decide +kernel
theorem dX4_undo_31 : decode cX4_undo 31 = .ok (.aload_n 0, 1) := by decide +kernel
theorem dX4_undo_32 : decode cX4_undo 32 = .ok (.getfield 13, 3) := by decide +kernel
theorem dX4_undo_35 : decode cX4_undo 35 = .ok (.bipush 115, 2) := by decide +kernel
theorem dX4_undo_37 : decode cX4_undo 37 = .ok (.aload_n 0, 1) := by decide +kernel
theorem dX4_undo_38 : decode cX4_undo 38 = .ok (.getfield 52, 3) := by decide +kernel
theorem dX4_undo_41 : decode cX4_undo 41 = .ok (.imul, 1) := by decide +kernel
theorem dX4_undo_42 : decode cX4_undo 42 = .ok (.aload_n 0, 1) := by decide +kernel
theorem dX4_undo_43 : decode cX4_undo 43 = .ok (.getfield 7, 3) := by decide +kernel
theorem dX4_undo_46 : decode cX4_undo 46 = .ok (.iconst 0, 1) := by decide +kernel
theorem dX4_undo_47 : decode cX4_undo 47 = .ok (.invokestatic 55, 3) := by decide +kernel
theorem dX4_undo_50 : decode cX4_undo 50 = .ok (.aload_n 0, 1) := by decide +kernel
theorem dX4_undo_51 : decode cX4_undo 51 = .ok (.getfield 52, 3) := by decide +kernel
theorem dX4_undo_54 : decode cX4_undo 54 = .ok (.ireturn, 1) := by decide +kernel
theorem dX4_save_0 : decode cX4_save 0 = .ok (.aload_n 0, 1) := by decide +kernel
theorem dX4_save_1 : decode cX4_save 1 = .ok (.iconst 0, 1) := by decide +kernel
theorem dX4_save_2 : decode cX4_save 2 = .ok (.putfield 45, 3) := by decide +kernel
theorem dX4_save_5 : decode cX4_save 5 = .ok (.aload_n 0, 1) := by decide +kernel
theorem dX4_save_6 : decode cX4_save 6 = .ok (.iconst 1, 1) := by decide +kernel
theorem dX4_save_7 : decode cX4_save 7 = .ok (.putfield 265, 3) := by decide +kernel
theorem dX4_save_10 : decode cX4_save 10 = .ok (.aload_n 0, 1) := by decide +kernel
theorem dX4_save_11 : decode cX4_save 11 = .ok (.getfield 7, 3) := by decide +kernel
theorem dX4_save_14 : decode cX4_save 14 = .ok (.iconst 0, 1) := by decide +kernel
theorem dX4_save_15 : decode cX4_save 15 = .ok (.aload_n 0, 1) := by decide +kernel
theorem dX4_save_16 : decode cX4_save 16 = .ok (.getfield 16, 3) := by decide +kernel
theorem dX4_save_19 : decode cX4_save 19 = .ok (.iconst 0, 1) := by decide +kernel
theorem dX4_save_20 : decode cX4_save 20 = .ok (.invokestatic 55, 3) := by decide +kernel
theorem dX4_save_23 : decode cX4_save 23 = .ok (.aload_n 0, 1) := by decide +kernel
theorem dX4_save_24 : decode cX4_save 24 = .ok (.getfield 7, 3) := by decide +kernel
theorem dX4_save_27 : decode cX4_save 27 = .ok (.iconst 0, 1) := by decide +kernel
theorem dX4_save_28 : decode cX4_save 28 = .ok (.iaload, 1) := by decide +kernel
theorem dX4_save_29 : decode cX4_save 29 = .ok (.ireturn, 1) := by decide +kernel
theorem dX4_restore_0 : decode cX4_restore 0 = .ok (.aload_n 0, 1) := by decide +kernel
theorem dX4_restore_1 : decode cX4_restore 1 = .ok (.aload_n 0, 1) := by decide +kernel
theorem dX4_restore_2 : decode cX4_restore 2 = .ok (.getfield 265, 3) := by decide +kernel
theorem dX4_restore_5 : decode cX4_restore 5 = .ok (.ifCond .eq 7, 3) := by decide +kernel
theorem dX4_restore_8 : decode cX4_restore 8 = .ok (.iconst 0, 1) := by decide +kernel
theorem dX4_restore_9 : decode cX4_restore 9 = .ok (.goto 4, 3) := by decide +kernel
theorem dX4_restore_12 : decode cX4_restore 12 = .ok (.iconst 1, 1) := by decide +kernel
theorem dX4_restore_13 : decode cX4_restore 13 = .ok (.invokevirtual 89, 3) := by decide +kernel
theorem dX4_restore_16 : decode cX4_restore 16 = .ok (.ifCond .eq 5, 3) := by decide +kernel
theorem dX4_restore_19 : decode cX4_restore 19 = .ok (.iconst 0, 1) := by decide +kernel
theorem dX4_restore_20 : decode cX4_restore 20 = .ok (.ireturn, 1) := by decide +kernel
theorem dX4_restore_21 : decode cX4_restore 21 = .ok (.aload_n 0, 1) := by decide +kernel
theorem dX4_restore_22 : decode cX4_restore 22 = .ok (.getfield 16, 3) := by decide +kernel
theorem dX4_restore_25 : decode cX4_restore 25 = .ok (.iconst 0, 1) := by decide +kernel
theorem dX4_restore_26 : decode cX4_restore 26 = .ok (.aload_n 0, 1) := by decide +kernel
theorem dX4_restore_27 : decode cX4_restore 27 = .ok (.getfield 7, 3) := by decide +kernel
theorem dX4_restore_30 : decode cX4_restore 30 = .ok (.iconst 0, 1) := by decide +kernel
theorem dX4_restore_31 : decode cX4_restore 31 = .ok (.invokestatic 55, 3) := by decide +kernel
theorem dX4_restore_34 : decode cX4_restore 34 = .ok (.aload_n 0, 1) := by decide +kernel
theorem dX4_restore_35 : decode cX4_restore 35 = .ok (.iconst 0, 1) := by decide +kernel
theorem dX4_restore_36 : decode cX4_restore 36 = .ok (.putfield 52, 3) := by decide +kernel
theorem dX4_restore_39 : decode cX4_restore 39 = .ok (.aload_n 0, 1) := by decide +kernel
theorem dX4_restore_40 : decode cX4_restore 40 = .ok (.getfield 7, 3) := by decide +kernel
theorem dX4_restore_43 : decode cX4_restore 43 = .ok (.iconst 0, 1) := by decide +kernel
theorem dX4_restore_44 : decode cX4_restore 44 = .ok (.iaload, 1) := by decide +kernel
theorem dX4_restore_45 : decode cX4_restore 45 = .ok (.ireturn, 1) := by decide +kernel
