theorem dX1_init_0 : decode cX1_init 0 = .ok (.aload_n 0, 1) := by decide +kernel
theorem dX1_init_1 : decode cX1_init 1 = .ok (.invokespecial 3, 3) := by decide +kernel
theorem dX1_init_4 : decode cX1_init 4 = .ok (.aload_n 0, 1) := by decide +kernel
theorem dX1_init_5 : decode cX1_init 5 = .ok (.bipush 60, 2) := by decide +kernel
theorem dX1_init_7 : decode cX1_init 7 = .ok (.newarray .int, 2) := by decide +kernel
theorem dX1_init_9 : decode cX1_init 9 = .ok (.putfield 9, 3) := by decide +kernel
theorem dX1_init_12 : decode cX1_init 12 = .ok (.aload_n 0, 1) := by decide +kernel
theorem dX1_init_13 : decode cX1_init 13 = .ok (.bipush 60, 2) := by decide +kernel
theorem dX1_init_15 : decode cX1_init 15 = .ok (.newarray .int, 2) := by decide +kernel
theorem dX1_init_17 : decode cX1_init 17 = .ok (.putfield 15, 3) := by decide +kernel
theorem dX1_init_20 : decode cX1_init 20 = .ok (.aload_n 0, 1) := by decide +kernel
theorem dX1_init_21 : decode cX1_init 21 = .ok (.bipush 60, 2) := by decide +kernel
theorem dX1_init_23 : decode cX1_init 23 = .ok (.newarray .int, 2) := by decide +kernel
theorem dX1_init_25 : decode cX1_init 25 = .ok (.putfield 18, 3) := by decide +kernel
theorem dX1_init_28 : decode cX1_init 28 = .ok (.aload_n 0, 1) := by decide +kernel
theorem dX1_init_29 : decode cX1_init 29 = .ok (.new 21, 3) := by decide +kernel
theorem dX1_init_32 : decode cX1_init 32 = .ok (.dup, 1) := by decide +kernel
theorem dX1_init_33 : decode cX1_init 33 = .ok (.invokespecial 23, 3) := by decide +kernel
theorem dX1_init_36 : decode cX1_init 36 = .ok (.putfield 24, 3) := by decide +kernel
theorem dX1_init_39 : decode cX1_init 39 = .ok (.return_, 1) := by decide +kernel
theorem dX1_hasRoom_0 : decode cX1_hasRoom 0 = .ok (.aload_n 0, 1) := by decide +kernel
theorem dX1_hasRoom_1 : decode cX1_hasRoom 1 = .ok (.getfield 24, 3) := by decide +kernel
theorem dX1_hasRoom_4 : decode cX1_hasRoom 4 = .ok (.invokevirtual 28, 3) := by decide +kernel
theorem dX1_hasRoom_7 : decode cX1_hasRoom 7 = .ok (.bipush 60, 2) := by decide +kernel
theorem dX1_hasRoom_9 : decode cX1_hasRoom 9 = .ok (.if_icmp .ge 7, 3) := by decide +kernel
theorem dX1_hasRoom_12 : decode cX1_hasRoom 12 = .ok (.iconst 1, 1) := by decide +kernel
theorem dX1_hasRoom_13 : decode cX1_hasRoom 13 = .ok (.goto 4, 3) := by decide +kernel
theorem dX1_hasRoom_16 : decode cX1_hasRoom 16 = .ok (.iconst 0, 1) := by decide +kernel
theorem dX1_hasRoom_17 : decode cX1_hasRoom 17 = .ok (.ireturn, 1) := by decide +kernel
theorem dX1_append_0 : decode cX1_append 0 = .ok (.aload_n 0, 1) := by decide +kernel
theorem dX1_append_1 : decode cX1_append 1 = .ok (.getfield 24, 3) := by decide +kernel
theorem dX1_append_4 : decode cX1_append 4 = .ok (.iload_n 1, 1) := by decide +kernel
theorem dX1_append_5 : decode cX1_append 5 = .ok (.invokevirtual 32, 3) := by decide +kernel
theorem dX1_append_8 : decode cX1_append 8 = .ok (.pop, 1) := by decide +kernel
theorem dX1_append_9 : decode cX1_append 9 = .ok (.aload_n 0, 1) := by decide +kernel
theorem dX1_append_10 : decode cX1_append 10 = .ok (.getfield 24, 3) := by decide +kernel
theorem dX1_append_13 : decode cX1_append 13 = .ok (.invokevirtual 28, 3) := by decide +kernel
theorem dX1_append_16 : decode cX1_append 16 = .ok (.ireturn, 1) := by decide +kernel
theorem dX1_takeCommands_0 : decode cX1_takeCommands 0 = .ok (.aload_n 0, 1) := by decide +kernel
theorem dX1_takeCommands_1 : decode cX1_takeCommands 1 = .ok (.invokevirtual 36, 3) := by decide +kernel
theorem dX1_takeCommands_4 : decode cX1_takeCommands 4 = .ok (.istore_n 1, 1) := by decide +kernel
theorem dX1_takeCommands_5 : decode cX1_takeCommands 5 = .ok (.aload_n 0, 1) := by decide +kernel
theorem dX1_takeCommands_6 : decode cX1_takeCommands 6 = .ok (.getfield 24, 3) := by decide +kernel
theorem dX1_takeCommands_9 : decode cX1_takeCommands 9 = .ok (.iconst 0, 1) := by decide +kernel
theorem dX1_takeCommands_10 : decode cX1_takeCommands 10 = .ok (.invokevirtual 39, 3) := by decide +kernel
theorem dX1_takeCommands_13 : decode cX1_takeCommands 13 = .ok (.iload_n 1, 1) := by decide +kernel
theorem dX1_takeCommands_14 : decode cX1_takeCommands 14 = .ok (.ireturn, 1) := by decide +kernel
theorem dX1_readText_0 : decode cX1_readText 0 = .ok (.aload_n 0, 1) := by decide +kernel
theorem dX1_readText_1 : decode cX1_readText 1 = .ok (.iconst 0, 1) := by decide +kernel
theorem dX1_readText_2 : decode cX1_readText 2 = .ok (.putfield 43, 3) := by decide +kernel
theorem dX1_readText_5 : decode cX1_readText 5 = .ok (.aload_n 0, 1) := by decide +kernel
theorem dX1_readText_6 : decode cX1_readText 6 = .ok (.iconst 0, 1) := by decide +kernel
theorem dX1_readText_7 : decode cX1_readText 7 = .ok (.putfield 47, 3) := by decide +kernel
theorem dX1_readText_10 : decode cX1_readText 10 = .ok (.iconst 0, 1) := by decide +kernel
theorem dX1_readText_11 : decode cX1_readText 11 = .ok (.istore_n 1, 1) := by decide +kernel
theorem dX1_readText_12 : decode cX1_readText 12 = .ok (.iload_n 1, 1) := by decide +kernel
theorem dX1_readText_13 : decode cX1_readText 13 = .ok (.bipush 60, 2) := by decide +kernel
theorem dX1_readText_15 : decode cX1_readText 15 = .ok (.if_icmp .ge 66, 3) := by decide +kernel
theorem dX1_readText_18 : decode cX1_readText 18 = .ok (.iload_n 1, 1) := by decide +kernel
theorem dX1_readText_19 : decode cX1_readText 19 = .ok (.ifCond .le 17, 3) := by decide +kernel
theorem dX1_readText_22 : decode cX1_readText 22 = .ok (.aload_n 0, 1) := by decide +kernel
theorem dX1_readText_23 : decode cX1_readText 23 = .ok (.bipush 59, 2) := by decide +kernel
theorem dX1_readText_25 : decode cX1_readText 25 = .ok (.invokevirtual 50, 3) := by decide +kernel
theorem dX1_readText_28 : decode cX1_readText 28 = .ok (.ifCond .ne 8, 3) := by decide +kernel
theorem dX1_readText_31 : decode cX1_readText 31 = .ok (.aload_n 0, 1) := by decide +kernel
theorem dX1_readText_32 : decode cX1_readText 32 = .ok (.getfield 43, 3) := by decide +kernel
theorem dX1_readText_35 : decode cX1_readText 35 = .ok (.ireturn, 1) := by decide +kernel
theorem dX1_readText_36 : decode cX1_readText 36 = .ok (.aload_n 0, 1) := by decide +kernel
theorem dX1_readText_37 : decode cX1_readText 37 = .ok (.iload_n 1, 1) := by decide +kernel
theorem dX1_readText_38 : decode cX1_readText 38 = .ok (.invokevirtual 54, 3) := by decide +kernel
theorem dX1_readText_41 : decode cX1_readText 41 = .ok (.ifCond .ne 8, 3) := by decide +kernel
theorem dX1_readText_44 : decode cX1_readText 44 = .ok (.aload_n 0, 1) := by decide +kernel
theorem dX1_readText_45 : decode cX1_readText 45 = .ok (.getfield 43, 3) := by decide +kernel
theorem dX1_readText_48 : decode cX1_readText 48 = .ok (.ireturn, 1) := by decide +kernel
theorem dX1_readText_49 : decode cX1_readText 49 = .ok (.aload_n 0, 1) := by decide +kernel
theorem dX1_readText_50 : decode cX1_readText 50 = .ok (.dup, 1) := by decide +kernel
theorem dX1_readText_51 : decode cX1_readText 51 = .ok (.getfield 47, 3) := by decide +kernel
theorem dX1_readText_54 : decode cX1_readText 54 = .ok (.iconst 1, 1) := by decide +kernel
theorem dX1_readText_55 : decode cX1_readText 55 = .ok (.iadd, 1) := by decide +kernel
theorem dX1_readText_56 : decode cX1_readText 56 = .ok (.putfield 47, 3) := by decide +kernel
theorem dX1_readText_59 : decode cX1_readText 59 = .ok (.aload_n 0, 1) := by decide +kernel
theorem dX1_readText_60 : decode cX1_readText 60 = .ok (.getfield 43, 3) := by decide +kernel
theorem dX1_readText_63 : decode cX1_readText 63 = .ok (.aload_n 0, 1) := by decide +kernel
theorem dX1_readText_64 : decode cX1_readText 64 = .ok (.getfield 24, 3) := by decide +kernel
theorem dX1_readText_67 : decode cX1_readText 67 = .ok (.invokevirtual 28, 3) := by decide +kernel
theorem dX1_readText_70 : decode cX1_readText 70 = .ok (.if_icmp .ne 5, 3) := by decide +kernel
theorem dX1_readText_73 : decode cX1_readText 73 = .ok (.iconst (-1), 1) := by decide +kernel
theorem dX1_readText_74 : decode cX1_readText 74 = .ok (.ireturn, 1) := by decide +kernel
theorem dX1_readText_75 : decode cX1_readText 75 = .ok (.iinc 1 1, 3) := by decide +kernel
theorem dX1_readText_78 : decode cX1_readText 78 = .ok (.goto (-66), 3) := by decide +kernel
theorem dX1_readText_81 : decode cX1_readText 81 = .ok (.aload_n 0, 1) := by decide +kernel
theorem dX1_readText_82 : decode cX1_readText 82 = .ok (.getfield 43, 3) := by decide +kernel
theorem dX1_readText_85 : decode cX1_readText 85 = .ok (.ireturn, 1) := by decide +kernel
theorem dX1_readCommand_0 : decode cX1_readCommand 0 = .ok (.aload_n 0, 1) := by decide +kernel
theorem dX1_readCommand_1 : decode cX1_readCommand 1 = .ok (.getfield 43, 3) := by decide +kernel
theorem dX1_readCommand_4 : decode cX1_readCommand 4 = .ok (.istore_n 2, 1) := by decide +kernel
theorem dX1_readCommand_5 : decode cX1_readCommand 5 = .ok (.iload_n 2, 1) := by decide +kernel
theorem dX1_readCommand_6 : decode cX1_readCommand 6 = .ok (.istore_n 3, 1) := by decide +kernel
theorem dX1_readCommand_7 : decode cX1_readCommand 7 = .ok (.iconst 0, 1) := by decide +kernel
theorem dX1_readCommand_8 : decode cX1_readCommand 8 = .ok (.istore 4, 2) := by decide +kernel
theorem dX1_readCommand_10 : decode cX1_readCommand 10 = .ok (.iload 4, 2) := by decide +kernel
theorem dX1_readCommand_12 : decode cX1_readCommand 12 = .ok (.bipush 12, 2) := by decide +kernel
theorem dX1_readCommand_14 : decode cX1_readCommand 14 = .ok (.if_icmp .ge 46, 3) := by decide +kernel
theorem dX1_readCommand_17 : decode cX1_readCommand 17 = .ok (.aload_n 0, 1) := by decide +kernel
theorem dX1_readCommand_18 : decode cX1_readCommand 18 = .ok (.iload_n 2, 1) := by decide +kernel
theorem dX1_readCommand_19 : decode cX1_readCommand 19 = .ok (.putfield 43, 3) := by decide +kernel
theorem dX1_readCommand_22 : decode cX1_readCommand 22 = .ok (.aload_n 0, 1) := by decide +kernel
theorem dX1_readCommand_23 : decode cX1_readCommand 23 = .ok (.iload 4, 2) := by decide +kernel
theorem dX1_readCommand_25 : decode cX1_readCommand 25 = .ok (.invokestatic 58, 3) := by decide +kernel
theorem dX1_readCommand_28 : decode cX1_readCommand 28 = .ok (.iload_n 1, 1) := by decide +kernel
theorem dX1_readCommand_29 : decode cX1_readCommand 29 = .ok (.invokevirtual 62, 3) := by decide +kernel
theorem dX1_readCommand_32 : decode cX1_readCommand 32 = .ok (.ifCond .eq 13, 3) := by decide +kernel
theorem dX1_readCommand_35 : decode cX1_readCommand 35 = .ok (.aload_n 0, 1) := by decide +kernel
theorem dX1_readCommand_36 : decode cX1_readCommand 36 = .ok (.getfield 9, 3) := by decide +kernel
theorem dX1_readCommand_39 : decode cX1_readCommand 39 = .ok (.iload_n 1, 1) := by decide +kernel
theorem dX1_readCommand_40 : decode cX1_readCommand 40 = .ok (.iload 4, 2) := by decide +kernel
theorem dX1_readCommand_42 : decode cX1_readCommand 42 = .ok (.iastore, 1) := by decide +kernel
theorem dX1_readCommand_43 : decode cX1_readCommand 43 = .ok (.iconst 1, 1) := by decide +kernel
theorem dX1_readCommand_44 : decode cX1_readCommand 44 = .ok (.ireturn, 1) := by decide +kernel
theorem dX1_readCommand_45 : decode cX1_readCommand 45 = .ok (.iload_n 3, 1) := by decide +kernel
theorem dX1_readCommand_46 : decode cX1_readCommand 46 = .ok (.aload_n 0, 1) := by decide +kernel
theorem dX1_readCommand_47 : decode cX1_readCommand 47 = .ok (.getfield 43, 3) := by decide +kernel
theorem dX1_readCommand_50 : decode cX1_readCommand 50 = .ok (.invokestatic 66, 3) := by decide +kernel
theorem dX1_readCommand_53 : decode cX1_readCommand 53 = .ok (.istore_n 3, 1) := by decide +kernel
theorem dX1_readCommand_54 : decode cX1_readCommand 54 = .ok (.iinc 4 1, 3) := by decide +kernel
theorem dX1_readCommand_57 : decode cX1_readCommand 57 = .ok (.goto (-47), 3) := by decide +kernel
theorem dX1_readCommand_60 : decode cX1_readCommand 60 = .ok (.aload_n 0, 1) := by decide +kernel
theorem dX1_readCommand_61 : decode cX1_readCommand 61 = .ok (.iload_n 3, 1) := by decide +kernel
theorem dX1_readCommand_62 : decode cX1_readCommand 62 = .ok (.putfield 43, 3) := by decide +kernel
theorem dX1_readCommand_65 : decode cX1_readCommand 65 = .ok (.iconst 0, 1) := by decide +kernel
theorem dX1_readCommand_66 : decode cX1_readCommand 66 = .ok (.ireturn, 1) := by decide +kernel
theorem dX1_readForm_0 : decode cX1_readForm 0 = .ok (.iconst 0, 1) := by decide +kernel
theorem dX1_readForm_1 : decode cX1_readForm 1 = .ok (.istore_n 3, 1) := by decide +kernel
theorem dX1_readForm_2 : decode cX1_readForm 2 = .ok (.iconst 0, 1) := by decide +kernel
theorem dX1_readForm_3 : decode cX1_readForm 3 = .ok (.istore 4, 2) := by decide +kernel
theorem dX1_readForm_5 : decode cX1_readForm 5 = .ok (.iload 4, 2) := by decide +kernel
theorem dX1_readForm_7 : decode cX1_readForm 7 = .ok (.aload_n 1, 1) := by decide +kernel
theorem dX1_readForm_8 : decode cX1_readForm 8 = .ok (.invokevirtual 72, 3) := by decide +kernel
theorem dX1_readForm_11 : decode cX1_readForm 11 = .ok (.if_icmp .ge 82, 3) := by decide +kernel
theorem dX1_readForm_14 : decode cX1_readForm 14 = .ok (.aload_n 1, 1) := by decide +kernel
theorem dX1_readForm_15 : decode cX1_readForm 15 = .ok (.iload 4, 2) := by decide +kernel
theorem dX1_readForm_17 : decode cX1_readForm 17 = .ok (.invokevirtual 75, 3) := by decide +kernel
theorem dX1_readForm_20 : decode cX1_readForm 20 = .ok (.istore 5, 2) := by decide +kernel
theorem dX1_readForm_22 : decode cX1_readForm 22 = .ok (.iload 5, 2) := by decide +kernel
theorem dX1_readForm_24 : decode cX1_readForm 24 = .ok (.bipush 78, 2) := by decide +kernel
theorem dX1_readForm_26 : decode cX1_readForm 26 = .ok (.if_icmp .eq 10, 3) := by decide +kernel
theorem dX1_readForm_29 : decode cX1_readForm 29 = .ok (.iload 5, 2) := by decide +kernel
theorem dX1_readForm_31 : decode cX1_readForm 31 = .ok (.bipush 68, 2) := by decide +kernel
theorem dX1_readForm_33 : decode cX1_readForm 33 = .ok (.if_icmp .ne 43, 3) := by decide +kernel
theorem dX1_readForm_36 : decode cX1_readForm 36 = .ok (.aload_n 0, 1) := by decide +kernel
theorem dX1_readForm_37 : decode cX1_readForm 37 = .ok (.iload 5, 2) := by decide +kernel
theorem dX1_readForm_39 : decode cX1_readForm 39 = .ok (.bipush 78, 2) := by decide +kernel
theorem dX1_readForm_41 : decode cX1_readForm 41 = .ok (.if_icmp .ne 7, 3) := by decide +kernel
theorem dX1_readForm_44 : decode cX1_readForm 44 = .ok (.iconst 1, 1) := by decide +kernel
theorem dX1_readForm_45 : decode cX1_readForm 45 = .ok (.goto 4, 3) := by decide +kernel
theorem dX1_readForm_48 : decode cX1_readForm 48 = .ok (.iconst 0, 1) := by decide +kernel
theorem dX1_readForm_49 : decode cX1_readForm 49 = .ok (.invokevirtual 79, 3) := by decide +kernel
theorem dX1_readForm_52 : decode cX1_readForm 52 = .ok (.istore 6, 2) := by decide +kernel
theorem dX1_readForm_54 : decode cX1_readForm 54 = .ok (.iload 6, 2) := by decide +kernel
theorem dX1_readForm_56 : decode cX1_readForm 56 = .ok (.iconst (-1), 1) := by decide +kernel
theorem dX1_readForm_57 : decode cX1_readForm 57 = .ok (.if_icmp .ne 5, 3) := by decide +kernel
theorem dX1_readForm_60 : decode cX1_readForm 60 = .ok (.iconst 0, 1) := by decide +kernel
theorem dX1_readForm_61 : decode cX1_readForm 61 = .ok (.ireturn, 1) := by decide +kernel
theorem dX1_readForm_62 : decode cX1_readForm 62 = .ok (.aload_n 0, 1) := by decide +kernel
theorem dX1_readForm_63 : decode cX1_readForm 63 = .ok (.iload_n 2, 1) := by decide +kernel
theorem dX1_readForm_64 : decode cX1_readForm 64 = .ok (.iload_n 3, 1) := by decide +kernel
theorem dX1_readForm_65 : decode cX1_readForm 65 = .ok (.iload 6, 2) := by decide +kernel
theorem dX1_readForm_67 : decode cX1_readForm 67 = .ok (.invokevirtual 83, 3) := by decide +kernel
theorem dX1_readForm_70 : decode cX1_readForm 70 = .ok (.iinc 3 1, 3) := by decide +kernel
theorem dX1_readForm_73 : decode cX1_readForm 73 = .ok (.goto 14, 3) := by decide +kernel
theorem dX1_readForm_76 : decode cX1_readForm 76 = .ok (.aload_n 0, 1) := by decide +kernel
theorem dX1_readForm_77 : decode cX1_readForm 77 = .ok (.iload 5, 2) := by decide +kernel
theorem dX1_readForm_79 : decode cX1_readForm 79 = .ok (.invokevirtual 50, 3) := by decide +kernel
theorem dX1_readForm_82 : decode cX1_readForm 82 = .ok (.ifCond .ne 5, 3) := by decide +kernel
theorem dX1_readForm_85 : decode cX1_readForm 85 = .ok (.iconst 0, 1) := by decide +kernel
theorem dX1_readForm_86 : decode cX1_readForm 86 = .ok (.ireturn, 1) := by decide +kernel
theorem dX1_readForm_87 : decode cX1_readForm 87 = .ok (.iinc 4 1, 3) := by decide +kernel
theorem dX1_readForm_90 : decode cX1_readForm 90 = .ok (.goto (-85), 3) := by decide +kernel
theorem dX1_readForm_93 : decode cX1_readForm 93 = .ok (.iconst 1, 1) := by decide +kernel
theorem dX1_readForm_94 : decode cX1_readForm 94 = .ok (.ireturn, 1) := by decide +kernel
theorem dX1_keepNumber_0 : decode cX1_keepNumber 0 = .ok (.iload_n 2, 1) := by decide +kernel
theorem dX1_keepNumber_1 : decode cX1_keepNumber 1 = .ok (.ifCond .ne 13, 3) := by decide +kernel
theorem dX1_keepNumber_4 : decode cX1_keepNumber 4 = .ok (.aload_n 0, 1) := by decide +kernel
theorem dX1_keepNumber_5 : decode cX1_keepNumber 5 = .ok (.getfield 15, 3) := by decide +kernel
theorem dX1_keepNumber_8 : decode cX1_keepNumber 8 = .ok (.iload_n 1, 1) := by decide +kernel
theorem dX1_keepNumber_9 : decode cX1_keepNumber 9 = .ok (.iload_n 3, 1) := by decide +kernel
theorem dX1_keepNumber_10 : decode cX1_keepNumber 10 = .ok (.iastore, 1) := by decide +kernel
theorem dX1_keepNumber_11 : decode cX1_keepNumber 11 = .ok (.goto 10, 3) := by decide +kernel
theorem dX1_keepNumber_14 : decode cX1_keepNumber 14 = .ok (.aload_n 0, 1) := by decide +kernel
theorem dX1_keepNumber_15 : decode cX1_keepNumber 15 = .ok (.getfield 18, 3) := by decide +kernel
theorem dX1_keepNumber_18 : decode cX1_keepNumber 18 = .ok (.iload_n 1, 1) := by decide +kernel
theorem dX1_keepNumber_19 : decode cX1_keepNumber 19 = .ok (.iload_n 3, 1) := by decide +kernel
theorem dX1_keepNumber_20 : decode cX1_keepNumber 20 = .ok (.iastore, 1) := by decide +kernel
theorem dX1_keepNumber_21 : decode cX1_keepNumber 21 = .ok (.return_, 1) := by decide +kernel
theorem dX1_readNumber_0 : decode cX1_readNumber 0 = .ok (.aload_n 0, 1) := by decide +kernel
theorem dX1_readNumber_1 : decode cX1_readNumber 1 = .ok (.invokevirtual 87, 3) := by decide +kernel
theorem dX1_readNumber_4 : decode cX1_readNumber 4 = .ok (.istore_n 2, 1) := by decide +kernel
theorem dX1_readNumber_5 : decode cX1_readNumber 5 = .ok (.iload_n 2, 1) := by decide +kernel
theorem dX1_readNumber_6 : decode cX1_readNumber 6 = .ok (.iconst (-1), 1) := by decide +kernel
theorem dX1_readNumber_7 : decode cX1_readNumber 7 = .ok (.if_icmp .eq 7, 3) := by decide +kernel
theorem dX1_readNumber_10 : decode cX1_readNumber 10 = .ok (.iload_n 1, 1) := by decide +kernel
theorem dX1_readNumber_11 : decode cX1_readNumber 11 = .ok (.ifCond .ne 5, 3) := by decide +kernel
theorem dX1_readNumber_14 : decode cX1_readNumber 14 = .ok (.iload_n 2, 1) := by decide +kernel
theorem dX1_readNumber_15 : decode cX1_readNumber 15 = .ok (.ireturn, 1) := by decide +kernel
theorem dX1_readNumber_16 : decode cX1_readNumber 16 = .ok (.aload_n 0, 1) := by decide +kernel
theorem dX1_readNumber_17 : decode cX1_readNumber 17 = .ok (.invokevirtual 87, 3) := by decide +kernel
theorem dX1_readNumber_20 : decode cX1_readNumber 20 = .ok (.istore_n 3, 1) := by decide +kernel
theorem dX1_readNumber_21 : decode cX1_readNumber 21 = .ok (.iload_n 3, 1) := by decide +kernel
theorem dX1_readNumber_22 : decode cX1_readNumber 22 = .ok (.iconst (-1), 1) := by decide +kernel
theorem dX1_readNumber_23 : decode cX1_readNumber 23 = .ok (.if_icmp .ne 7, 3) := by decide +kernel
theorem dX1_readNumber_26 : decode cX1_readNumber 26 = .ok (.iload_n 2, 1) := by decide +kernel
theorem dX1_readNumber_27 : decode cX1_readNumber 27 = .ok (.goto 9, 3) := by decide +kernel
theorem dX1_readNumber_30 : decode cX1_readNumber 30 = .ok (.iload_n 2, 1) := by decide +kernel
theorem dX1_readNumber_31 : decode cX1_readNumber 31 = .ok (.bipush 10, 2) := by decide +kernel
theorem dX1_readNumber_33 : decode cX1_readNumber 33 = .ok (.imul, 1) := by decide +kernel
theorem dX1_readNumber_34 : decode cX1_readNumber 34 = .ok (.iload_n 3, 1) := by decide +kernel
theorem dX1_readNumber_35 : decode cX1_readNumber 35 = .ok (.iadd, 1) := by decide +kernel
theorem dX1_readNumber_36 : decode cX1_readNumber 36 = .ok (.ireturn, 1) := by decide +kernel
theorem dX1_readDigit_0 : decode cX1_readDigit 0 = .ok (.aload_n 0, 1) := by decide +kernel
theorem dX1_readDigit_1 : decode cX1_readDigit 1 = .ok (.getfield 43, 3) := by decide +kernel
theorem dX1_readDigit_4 : decode cX1_readDigit 4 = .ok (.ifCond .lt 17, 3) := by decide +kernel
theorem dX1_readDigit_7 : decode cX1_readDigit 7 = .ok (.aload_n 0, 1) := by decide +kernel
theorem dX1_readDigit_8 : decode cX1_readDigit 8 = .ok (.getfield 43, 3) := by decide +kernel
theorem dX1_readDigit_11 : decode cX1_readDigit 11 = .ok (.aload_n 0, 1) := by decide +kernel
theorem dX1_readDigit_12 : decode cX1_readDigit 12 = .ok (.getfield 24, 3) := by decide +kernel
theorem dX1_readDigit_15 : decode cX1_readDigit 15 = .ok (.invokevirtual 28, 3) := by decide +kernel
theorem dX1_readDigit_18 : decode cX1_readDigit 18 = .ok (.if_icmp .lt 5, 3) := by decide +kernel
theorem dX1_readDigit_21 : decode cX1_readDigit 21 = .ok (.iconst (-1), 1) := by decide +kernel
theorem dX1_readDigit_22 : decode cX1_readDigit 22 = .ok (.ireturn, 1) := by decide +kernel
theorem dX1_readDigit_23 : decode cX1_readDigit 23 = .ok (.aload_n 0, 1) := by decide +kernel
theorem dX1_readDigit_24 : decode cX1_readDigit 24 = .ok (.getfield 24, 3) := by decide +kernel
theorem dX1_readDigit_27 : decode cX1_readDigit 27 = .ok (.aload_n 0, 1) := by decide +kernel
theorem dX1_readDigit_28 : decode cX1_readDigit 28 = .ok (.getfield 43, 3) := by decide +kernel
theorem dX1_readDigit_31 : decode cX1_readDigit 31 = .ok (.invokevirtual 90, 3) := by decide +kernel
theorem dX1_readDigit_34 : decode cX1_readDigit 34 = .ok (.istore_n 1, 1) := by decide +kernel
theorem dX1_readDigit_35 : decode cX1_readDigit 35 = .ok (.iload_n 1, 1) := by decide +kernel
theorem dX1_readDigit_36 : decode cX1_readDigit 36 = .ok (.bipush 48, 2) := by decide +kernel
theorem dX1_readDigit_38 : decode cX1_readDigit 38 = .ok (.if_icmp .lt 9, 3) := by decide +kernel
theorem dX1_readDigit_41 : decode cX1_readDigit 41 = .ok (.iload_n 1, 1) := by decide +kernel
theorem dX1_readDigit_42 : decode cX1_readDigit 42 = .ok (.bipush 57, 2) := by decide +kernel
theorem dX1_readDigit_44 : decode cX1_readDigit 44 = .ok (.if_icmp .le 5, 3) := by decide +kernel
theorem dX1_readDigit_47 : decode cX1_readDigit 47 = .ok (.iconst (-1), 1) := by decide +kernel
theorem dX1_readDigit_48 : decode cX1_readDigit 48 = .ok (.ireturn, 1) := by decide +kernel
theorem dX1_readDigit_49 : decode cX1_readDigit 49 = .ok (.aload_n 0, 1) := by decide +kernel
theorem dX1_readDigit_50 : decode cX1_readDigit 50 = .ok (.dup, 1) := by decide +kernel
theorem dX1_readDigit_51 : decode cX1_readDigit 51 = .ok (.getfield 43, 3) := by decide +kernel
theorem dX1_readDigit_54 : decode cX1_readDigit 54 = .ok (.iconst 1, 1) := by decide +kernel
theorem dX1_readDigit_55 : decode cX1_readDigit 55 = .ok (.iadd, 1) := by decide +kernel
theorem dX1_readDigit_56 : decode cX1_readDigit 56 = .ok (.putfield 43, 3) := by decide +kernel
theorem dX1_readDigit_59 : decode cX1_readDigit 59 = .ok (.iload_n 1, 1) := by decide +kernel
theorem dX1_readDigit_60 : decode cX1_readDigit 60 = .ok (.bipush 48, 2) := by decide +kernel
theorem dX1_readDigit_62 : decode cX1_readDigit 62 = .ok (.isub, 1) := by decide +kernel
theorem dX1_readDigit_63 : decode cX1_readDigit 63 = .ok (.ireturn, 1) := by decide +kernel
theorem dX1_skip_0 : decode cX1_skip 0 = .ok (.aload_n 0, 1) := by decide +kernel
theorem dX1_skip_1 : decode cX1_skip 1 = .ok (.getfield 43, 3) := by decide +kernel
theorem dX1_skip_4 : decode cX1_skip 4 = .ok (.ifCond .lt 32, 3) := by decide +kernel
theorem dX1_skip_7 : decode cX1_skip 7 = .ok (.aload_n 0, 1) := by decide +kernel
theorem dX1_skip_8 : decode cX1_skip 8 = .ok (.getfield 43, 3) := by decide +kernel
theorem dX1_skip_11 : decode cX1_skip 11 = .ok (.aload_n 0, 1) := by decide +kernel
theorem dX1_skip_12 : decode cX1_skip 12 = .ok (.getfield 24, 3) := by decide +kernel
theorem dX1_skip_15 : decode cX1_skip 15 = .ok (.invokevirtual 28, 3) := by decide +kernel
theorem dX1_skip_18 : decode cX1_skip 18 = .ok (.if_icmp .ge 18, 3) := by decide +kernel
theorem dX1_skip_21 : decode cX1_skip 21 = .ok (.aload_n 0, 1) := by decide +kernel
theorem dX1_skip_22 : decode cX1_skip 22 = .ok (.getfield 24, 3) := by decide +kernel
theorem dX1_skip_25 : decode cX1_skip 25 = .ok (.aload_n 0, 1) := by decide +kernel
theorem dX1_skip_26 : decode cX1_skip 26 = .ok (.getfield 43, 3) := by decide +kernel
theorem dX1_skip_29 : decode cX1_skip 29 = .ok (.invokevirtual 90, 3) := by decide +kernel
theorem dX1_skip_32 : decode cX1_skip 32 = .ok (.iload_n 1, 1) := by decide +kernel
theorem dX1_skip_33 : decode cX1_skip 33 = .ok (.if_icmp .eq 5, 3) := by decide +kernel
theorem dX1_skip_36 : decode cX1_skip 36 = .ok (.iconst 0, 1) := by decide +kernel
theorem dX1_skip_37 : decode cX1_skip 37 = .ok (.ireturn, 1) := by decide +kernel
theorem dX1_skip_38 : decode cX1_skip 38 = .ok (.aload_n 0, 1) := by decide +kernel
theorem dX1_skip_39 : decode cX1_skip 39 = .ok (.dup, 1) := by decide +kernel
theorem dX1_skip_40 : decode cX1_skip 40 = .ok (.getfield 43, 3) := by decide +kernel
theorem dX1_skip_43 : decode cX1_skip 43 = .ok (.iconst 1, 1) := by decide +kernel
theorem dX1_skip_44 : decode cX1_skip 44 = .ok (.iadd, 1) := by decide +kernel
theorem dX1_skip_45 : decode cX1_skip 45 = .ok (.putfield 43, 3) := by decide +kernel
theorem dX1_skip_48 : decode cX1_skip 48 = .ok (.iconst 1, 1) := by decide +kernel
theorem dX1_skip_49 : decode cX1_skip 49 = .ok (.ireturn, 1) := by decide +kernel
theorem dX1_formOf_0 : decode cX1_formOf 0 = .ok (.iload_n 0, 1) := by decide +kernel
theorem dX1_formOf_1 : decode cX1_formOf 1 = .ok (.tableswitch 92 0 10 #[59, 62, 65, 68, 71, 74, 77, 80, 83, 86, 89], 59) := by decide +kernel
theorem dX1_formOf_60 : decode cX1_formOf 60 = .ok (.ldc 91, 2) := by decide +kernel
theorem dX1_formOf_62 : decode cX1_formOf 62 = .ok (.areturn, 1) := by decide +kernel
theorem dX1_formOf_63 : decode cX1_formOf 63 = .ok (.ldc 93, 2) := by decide +kernel
theorem dX1_formOf_65 : decode cX1_formOf 65 = .ok (.areturn, 1) := by decide +kernel
theorem dX1_formOf_66 : decode cX1_formOf 66 = .ok (.ldc 95, 2) := by decide +kernel
theorem dX1_formOf_68 : decode cX1_formOf 68 = .ok (.areturn, 1) := by decide +kernel
theorem dX1_formOf_69 : decode cX1_formOf 69 = .ok (.ldc 97, 2) := by decide +kernel
theorem dX1_formOf_71 : decode cX1_formOf 71 = .ok (.areturn, 1) := by decide +kernel
theorem dX1_formOf_72 : decode cX1_formOf 72 = .ok (.ldc 99, 2) := by decide +kernel
theorem dX1_formOf_74 : decode cX1_formOf 74 = .ok (.areturn, 1) := by decide +kernel
theorem dX1_formOf_75 : decode cX1_formOf 75 = .ok (.ldc 101, 2) := by decide +kernel
theorem dX1_formOf_77 : decode cX1_formOf 77 = .ok (.areturn, 1) := by decide +kernel
theorem dX1_formOf_78 : decode cX1_formOf 78 = .ok (.ldc 103, 2) := by decide +kernel
theorem dX1_formOf_80 : decode cX1_formOf 80 = .ok (.areturn, 1) := by decide +kernel
theorem dX1_formOf_81 : decode cX1_formOf 81 = .ok (.ldc 105, 2) := by decide +kernel
theorem dX1_formOf_83 : decode cX1_formOf 83 = .ok (.areturn, 1) := by decide +kernel
theorem dX1_formOf_84 : decode cX1_formOf 84 = .ok (.ldc 107, 2) := by decide +kernel
theorem dX1_formOf_86 : decode cX1_formOf 86 = .ok (.areturn, 1) := by decide +kernel
theorem dX1_formOf_87 : decode cX1_formOf 87 = .ok (.ldc 109, 2) := by decide +kernel
theorem dX1_formOf_89 : decode cX1_formOf 89 = .ok (.areturn, 1) := by decide +kernel
theorem dX1_formOf_90 : decode cX1_formOf 90 = .ok (.ldc 111, 2) := by decide +kernel
theorem dX1_formOf_92 : decode cX1_formOf 92 = .ok (.areturn, 1) := by decide +kernel
theorem dX1_formOf_93 : decode cX1_formOf 93 = .ok (.ldc 113, 2) := by decide +kernel
theorem dX1_formOf_95 : decode cX1_formOf 95 = .ok (.areturn, 1) := by decide +kernel
theorem dX2_init_0 : decode cX2_init 0 = .ok (.aload_n 0, 1) := by decide +kernel
theorem dX2_init_1 : decode cX2_init 1 = .ok (.invokespecial 3, 3) := by decide +kernel
theorem dX2_init_4 : decode cX2_init 4 = .ok (.aload_n 0, 1) := by decide +kernel
theorem dX2_init_5 : decode cX2_init 5 = .ok (.bipush 8, 2) := by decide +kernel
theorem dX2_init_7 : decode cX2_init 7 = .ok (.anewarray 9, 3) := by decide +kernel
theorem dX2_init_10 : decode cX2_init 10 = .ok (.putfield 11, 3) := by decide +kernel
theorem dX2_init_13 : decode cX2_init 13 = .ok (.iconst 0, 1) := by decide +kernel
theorem dX2_init_14 : decode cX2_init 14 = .ok (.istore_n 1, 1) := by decide +kernel
theorem dX2_init_15 : decode cX2_init 15 = .ok (.iload_n 1, 1) := by decide +kernel
theorem dX2_init_16 : decode cX2_init 16 = .ok (.aload_n 0, 1) := by decide +kernel
theorem dX2_init_17 : decode cX2_init 17 = .ok (.getfield 11, 3) := by decide +kernel
theorem dX2_init_20 : decode cX2_init 20 = .ok (.arraylength, 1) := by decide +kernel
theorem dX2_init_21 : decode cX2_init 21 = .ok (.if_icmp .ge 22, 3) := by decide +kernel
theorem dX2_init_24 : decode cX2_init 24 = .ok (.aload_n 0, 1) := by decide +kernel
theorem dX2_init_25 : decode cX2_init 25 = .ok (.getfield 11, 3) := by decide +kernel
theorem dX2_init_28 : decode cX2_init 28 = .ok (.iload_n 1, 1) := by decide +kernel
theorem dX2_init_29 : decode cX2_init 29 = .ok (.new 9, 3) := by decide +kernel
theorem dX2_init_32 : decode cX2_init 32 = .ok (.dup, 1) := by decide +kernel
theorem dX2_init_33 : decode cX2_init 33 = .ok (.invokespecial 17, 3) := by decide +kernel
theorem dX2_init_36 : decode cX2_init 36 = .ok (.aastore, 1) := by decide +kernel
theorem dX2_init_37 : decode cX2_init 37 = .ok (.iinc 1 1, 3) := by decide +kernel
theorem dX2_init_40 : decode cX2_init 40 = .ok (.goto (-25), 3) := by decide +kernel
theorem dX2_init_43 : decode cX2_init 43 = .ok (.return_, 1) := by decide +kernel
theorem dX2_keep_0 : decode cX2_keep 0 = .ok (.aload_n 0, 1) := by decide +kernel
theorem dX2_keep_1 : decode cX2_keep 1 = .ok (.getfield 11, 3) := by decide +kernel
theorem dX2_keep_4 : decode cX2_keep 4 = .ok (.aload_n 0, 1) := by decide +kernel
theorem dX2_keep_5 : decode cX2_keep 5 = .ok (.getfield 18, 3) := by decide +kernel
theorem dX2_keep_8 : decode cX2_keep 8 = .ok (.bipush 8, 2) := by decide +kernel
theorem dX2_keep_10 : decode cX2_keep 10 = .ok (.invokestatic 22, 3) := by decide +kernel
theorem dX2_keep_13 : decode cX2_keep 13 = .ok (.aaload, 1) := by decide +kernel
theorem dX2_keep_14 : decode cX2_keep 14 = .ok (.astore_n 2, 1) := by decide +kernel
theorem dX2_keep_15 : decode cX2_keep 15 = .ok (.aload_n 2, 1) := by decide +kernel
theorem dX2_keep_16 : decode cX2_keep 16 = .ok (.ifnull 33, 3) := by decide +kernel
theorem dX2_keep_19 : decode cX2_keep 19 = .ok (.aload_n 2, 1) := by decide +kernel
theorem dX2_keep_20 : decode cX2_keep 20 = .ok (.aload_n 1, 1) := by decide +kernel
theorem dX2_keep_21 : decode cX2_keep 21 = .ok (.invokevirtual 28, 3) := by decide +kernel
theorem dX2_keep_24 : decode cX2_keep 24 = .ok (.aload_n 0, 1) := by decide +kernel
theorem dX2_keep_25 : decode cX2_keep 25 = .ok (.dup, 1) := by decide +kernel
theorem dX2_keep_26 : decode cX2_keep 26 = .ok (.getfield 18, 3) := by decide +kernel
theorem dX2_keep_29 : decode cX2_keep 29 = .ok (.iconst 1, 1) := by decide +kernel
theorem dX2_keep_30 : decode cX2_keep 30 = .ok (.iadd, 1) := by decide +kernel
theorem dX2_keep_31 : decode cX2_keep 31 = .ok (.putfield 18, 3) := by decide +kernel
theorem dX2_keep_34 : decode cX2_keep 34 = .ok (.aload_n 0, 1) := by decide +kernel
theorem dX2_keep_35 : decode cX2_keep 35 = .ok (.aload_n 0, 1) := by decide +kernel
theorem dX2_keep_36 : decode cX2_keep 36 = .ok (.getfield 32, 3) := by decide +kernel
theorem dX2_keep_39 : decode cX2_keep 39 = .ok (.iconst 1, 1) := by decide +kernel
theorem dX2_keep_40 : decode cX2_keep 40 = .ok (.iadd, 1) := by decide +kernel
theorem dX2_keep_41 : decode cX2_keep 41 = .ok (.bipush 8, 2) := by decide +kernel
theorem dX2_keep_43 : decode cX2_keep 43 = .ok (.invokestatic 35, 3) := by decide +kernel
theorem dX2_keep_46 : decode cX2_keep 46 = .ok (.putfield 32, 3) := by decide +kernel
theorem dX2_keep_49 : decode cX2_keep 49 = .ok (.return_, 1) := by decide +kernel
theorem dX2_takeBackInto_0 : decode cX2_takeBackInto 0 = .ok (.aload_n 0, 1) := by decide +kernel
theorem dX2_takeBackInto_1 : decode cX2_takeBackInto 1 = .ok (.getfield 11, 3) := by decide +kernel
theorem dX2_takeBackInto_4 : decode cX2_takeBackInto 4 = .ok (.aload_n 0, 1) := by decide +kernel
theorem dX2_takeBackInto_5 : decode cX2_takeBackInto 5 = .ok (.getfield 18, 3) := by decide +kernel
theorem dX2_takeBackInto_8 : decode cX2_takeBackInto 8 = .ok (.iconst 1, 1) := by decide +kernel
theorem dX2_takeBackInto_9 : decode cX2_takeBackInto 9 = .ok (.isub, 1) := by decide +kernel
theorem dX2_takeBackInto_10 : decode cX2_takeBackInto 10 = .ok (.bipush 8, 2) := by decide +kernel
theorem dX2_takeBackInto_12 : decode cX2_takeBackInto 12 = .ok (.invokestatic 22, 3) := by decide +kernel
theorem dX2_takeBackInto_15 : decode cX2_takeBackInto 15 = .ok (.aaload, 1) := by decide +kernel
theorem dX2_takeBackInto_16 : decode cX2_takeBackInto 16 = .ok (.astore_n 2, 1) := by decide +kernel
theorem dX2_takeBackInto_17 : decode cX2_takeBackInto 17 = .ok (.aload_n 2, 1) := by decide +kernel
theorem dX2_takeBackInto_18 : decode cX2_takeBackInto 18 = .ok (.ifnull 35, 3) := by decide +kernel
theorem dX2_takeBackInto_21 : decode cX2_takeBackInto 21 = .ok (.aload_n 0, 1) := by decide +kernel
theorem dX2_takeBackInto_22 : decode cX2_takeBackInto 22 = .ok (.getfield 32, 3) := by decide +kernel
theorem dX2_takeBackInto_25 : decode cX2_takeBackInto 25 = .ok (.ifCond .le 28, 3) := by decide +kernel
theorem dX2_takeBackInto_28 : decode cX2_takeBackInto 28 = .ok (.aload_n 1, 1) := by decide +kernel
theorem dX2_takeBackInto_29 : decode cX2_takeBackInto 29 = .ok (.aload_n 2, 1) := by decide +kernel
theorem dX2_takeBackInto_30 : decode cX2_takeBackInto 30 = .ok (.invokevirtual 28, 3) := by decide +kernel
theorem dX2_takeBackInto_33 : decode cX2_takeBackInto 33 = .ok (.aload_n 0, 1) := by decide +kernel
theorem dX2_takeBackInto_34 : decode cX2_takeBackInto 34 = .ok (.dup, 1) := by decide +kernel
theorem dX2_takeBackInto_35 : decode cX2_takeBackInto 35 = .ok (.getfield 18, 3) := by decide +kernel
theorem dX2_takeBackInto_38 : decode cX2_takeBackInto 38 = .ok (.iconst 1, 1) := by decide +kernel
theorem dX2_takeBackInto_39 : decode cX2_takeBackInto 39 = .ok (.isub, 1) := by decide +kernel
theorem dX2_takeBackInto_40 : decode cX2_takeBackInto 40 = .ok (.putfield 18, 3) := by decide +kernel
theorem dX2_takeBackInto_43 : decode cX2_takeBackInto 43 = .ok (.aload_n 0, 1) := by decide +kernel
theorem dX2_takeBackInto_44 : decode cX2_takeBackInto 44 = .ok (.dup, 1) := by decide +kernel
theorem dX2_takeBackInto_45 : decode cX2_takeBackInto 45 = .ok (.getfield 32, 3) := by decide +kernel
theorem dX2_takeBackInto_48 : decode cX2_takeBackInto 48 = .ok (.iconst 1, 1) := by decide +kernel
theorem dX2_takeBackInto_49 : decode cX2_takeBackInto 49 = .ok (.isub, 1) := by decide +kernel
theorem dX2_takeBackInto_50 : decode cX2_takeBackInto 50 = .ok (.putfield 32, 3) := by decide +kernel
theorem dX2_takeBackInto_53 : decode cX2_takeBackInto 53 = .ok (.return_, 1) := by decide +kernel
theorem dX2_forgetAll_0 : decode cX2_forgetAll 0 = .ok (.aload_n 0, 1) := by decide +kernel
theorem dX2_forgetAll_1 : decode cX2_forgetAll 1 = .ok (.iconst 0, 1) := by decide +kernel
theorem dX2_forgetAll_2 : decode cX2_forgetAll 2 = .ok (.putfield 32, 3) := by decide +kernel
theorem dX2_forgetAll_5 : decode cX2_forgetAll 5 = .ok (.return_, 1) := by decide +kernel
theorem dX3_init_0 : decode cX3_init 0 = .ok (.aload_n 0, 1) := by decide +kernel
theorem dX3_init_1 : decode cX3_init 1 = .ok (.invokespecial 3, 3) := by decide +kernel
theorem dX3_init_4 : decode cX3_init 4 = .ok (.aload_n 0, 1) := by decide +kernel
theorem dX3_init_5 : decode cX3_init 5 = .ok (.new 9, 3) := by decide +kernel
theorem dX3_init_8 : decode cX3_init 8 = .ok (.dup, 1) := by decide +kernel
theorem dX3_init_9 : decode cX3_init 9 = .ok (.invokespecial 11, 3) := by decide +kernel
theorem dX3_init_12 : decode cX3_init 12 = .ok (.putfield 12, 3) := by decide +kernel
theorem dX3_init_15 : decode cX3_init 15 = .ok (.aload_n 0, 1) := by decide +kernel
theorem dX3_init_16 : decode cX3_init 16 = .ok (.new 9, 3) := by decide +kernel
theorem dX3_init_19 : decode cX3_init 19 = .ok (.dup, 1) := by decide +kernel
theorem dX3_init_20 : decode cX3_init 20 = .ok (.invokespecial 11, 3) := by decide +kernel
theorem dX3_init_23 : decode cX3_init 23 = .ok (.putfield 16, 3) := by decide +kernel
theorem dX3_init_26 : decode cX3_init 26 = .ok (.aload_n 0, 1) := by decide +kernel
theorem dX3_init_27 : decode cX3_init 27 = .ok (.new 9, 3) := by decide +kernel
theorem dX3_init_30 : decode cX3_init 30 = .ok (.dup, 1) := by decide +kernel
theorem dX3_init_31 : decode cX3_init 31 = .ok (.invokespecial 11, 3) := by decide +kernel
theorem dX3_init_34 : decode cX3_init 34 = .ok (.putfield 19, 3) := by decide +kernel
theorem dX3_init_37 : decode cX3_init 37 = .ok (.aload_n 0, 1) := by decide +kernel
theorem dX3_init_38 : decode cX3_init 38 = .ok (.new 9, 3) := by decide +kernel
theorem dX3_init_41 : decode cX3_init 41 = .ok (.dup, 1) := by decide +kernel
theorem dX3_init_42 : decode cX3_init 42 = .ok (.invokespecial 11, 3) := by decide +kernel
theorem dX3_init_45 : decode cX3_init 45 = .ok (.putfield 22, 3) := by decide +kernel
theorem dX3_init_48 : decode cX3_init 48 = .ok (.aload_n 0, 1) := by decide +kernel
theorem dX3_init_49 : decode cX3_init 49 = .ok (.new 25, 3) := by decide +kernel
theorem dX3_init_52 : decode cX3_init 52 = .ok (.dup, 1) := by decide +kernel
theorem dX3_init_53 : decode cX3_init 53 = .ok (.invokespecial 27, 3) := by decide +kernel
theorem dX3_init_56 : decode cX3_init 56 = .ok (.putfield 28, 3) := by decide +kernel
theorem dX3_init_59 : decode cX3_init 59 = .ok (.aload_n 0, 1) := by decide +kernel
theorem dX3_init_60 : decode cX3_init 60 = .ok (.new 32, 3) := by decide +kernel
theorem dX3_init_63 : decode cX3_init 63 = .ok (.dup, 1) := by decide +kernel
theorem dX3_init_64 : decode cX3_init 64 = .ok (.invokespecial 34, 3) := by decide +kernel
theorem dX3_init_67 : decode cX3_init 67 = .ok (.putfield 35, 3) := by decide +kernel
theorem dX3_init_70 : decode cX3_init 70 = .ok (.aload_n 0, 1) := by decide +kernel
theorem dX3_init_71 : decode cX3_init 71 = .ok (.new 39, 3) := by decide +kernel
theorem dX3_init_74 : decode cX3_init 74 = .ok (.dup, 1) := by decide +kernel
theorem dX3_init_75 : decode cX3_init 75 = .ok (.invokespecial 41, 3) := by decide +kernel
theorem dX3_init_78 : decode cX3_init 78 = .ok (.putfield 42, 3) := by decide +kernel
theorem dX3_init_81 : decode cX3_init 81 = .ok (.aload_n 0, 1) := by decide +kernel
theorem dX3_init_82 : decode cX3_init 82 = .ok (.bipush 16, 2) := by decide +kernel
theorem dX3_init_84 : decode cX3_init 84 = .ok (.newarray .int, 2) := by decide +kernel
theorem dX3_init_86 : decode cX3_init 86 = .ok (.putfield 46, 3) := by decide +kernel
theorem dX3_init_89 : decode cX3_init 89 = .ok (.aload_n 0, 1) := by decide +kernel
theorem dX3_init_90 : decode cX3_init 90 = .ok (.iconst (-1), 1) := by decide +kernel
theorem dX3_init_91 : decode cX3_init 91 = .ok (.putfield 50, 3) := by decide +kernel
theorem dX3_init_94 : decode cX3_init 94 = .ok (.aload_n 0, 1) := by decide +kernel
theorem dX3_init_95 : decode cX3_init 95 = .ok (.iconst (-1), 1) := by decide +kernel
theorem dX3_init_96 : decode cX3_init 96 = .ok (.putfield 54, 3) := by decide +kernel
theorem dX3_init_99 : decode cX3_init 99 = .ok (.return_, 1) := by decide +kernel
theorem dX3_addStory_0 : decode cX3_addStory 0 = .ok (.iload_n 1, 1) := by decide +kernel
theorem dX3_addStory_1 : decode cX3_addStory 1 = .ok (.invokestatic 57, 3) := by decide +kernel
theorem dX3_addStory_4 : decode cX3_addStory 4 = .ok (.invokestatic 61, 3) := by decide +kernel
theorem dX3_addStory_7 : decode cX3_addStory 7 = .ok (.aload_n 0, 1) := by decide +kernel
theorem dX3_addStory_8 : decode cX3_addStory 8 = .ok (.getfield 12, 3) := by decide +kernel
theorem dX3_addStory_11 : decode cX3_addStory 11 = .ok (.iload_n 1, 1) := by decide +kernel
theorem dX3_addStory_12 : decode cX3_addStory 12 = .ok (.invokevirtual 65, 3) := by decide +kernel
theorem dX3_addStory_15 : decode cX3_addStory 15 = .ok (.invokestatic 68, 3) := by decide +kernel
theorem dX3_addStory_18 : decode cX3_addStory 18 = .ok (.aload_n 0, 1) := by decide +kernel
theorem dX3_addStory_19 : decode cX3_addStory 19 = .ok (.getfield 28, 3) := by decide +kernel
theorem dX3_addStory_22 : decode cX3_addStory 22 = .ok (.aload_n 0, 1) := by decide +kernel
theorem dX3_addStory_23 : decode cX3_addStory 23 = .ok (.getfield 12, 3) := by decide +kernel
theorem dX3_addStory_26 : decode cX3_addStory 26 = .ok (.invokevirtual 71, 3) := by decide +kernel
theorem dX3_addStory_29 : decode cX3_addStory 29 = .ok (.aload_n 0, 1) := by decide +kernel
theorem dX3_addStory_30 : decode cX3_addStory 30 = .ok (.getfield 12, 3) := by decide +kernel
theorem dX3_addStory_33 : decode cX3_addStory 33 = .ok (.iload_n 1, 1) := by decide +kernel
theorem dX3_addStory_34 : decode cX3_addStory 34 = .ok (.invokevirtual 75, 3) := by decide +kernel
theorem dX3_addStory_37 : decode cX3_addStory 37 = .ok (.ireturn, 1) := by decide +kernel
theorem dX3_reestimate_0 : decode cX3_reestimate 0 = .ok (.aload_n 0, 1) := by decide +kernel
theorem dX3_reestimate_1 : decode cX3_reestimate 1 = .ok (.iload_n 1, 1) := by decide +kernel
theorem dX3_reestimate_2 : decode cX3_reestimate 2 = .ok (.invokevirtual 79, 3) := by decide +kernel
theorem dX3_reestimate_5 : decode cX3_reestimate 5 = .ok (.iload_n 2, 1) := by decide +kernel
theorem dX3_reestimate_6 : decode cX3_reestimate 6 = .ok (.invokestatic 57, 3) := by decide +kernel
theorem dX3_reestimate_9 : decode cX3_reestimate 9 = .ok (.invokestatic 61, 3) := by decide +kernel
theorem dX3_reestimate_12 : decode cX3_reestimate 12 = .ok (.aload_n 0, 1) := by decide +kernel
theorem dX3_reestimate_13 : decode cX3_reestimate 13 = .ok (.getfield 12, 3) := by decide +kernel
theorem dX3_reestimate_16 : decode cX3_reestimate 16 = .ok (.iload_n 1, 1) := by decide +kernel
theorem dX3_reestimate_17 : decode cX3_reestimate 17 = .ok (.iload_n 2, 1) := by decide +kernel
theorem dX3_reestimate_18 : decode cX3_reestimate 18 = .ok (.invokevirtual 83, 3) := by decide +kernel
theorem dX3_reestimate_21 : decode cX3_reestimate 21 = .ok (.invokestatic 68, 3) := by decide +kernel
theorem dX3_reestimate_24 : decode cX3_reestimate 24 = .ok (.aload_n 0, 1) := by decide +kernel
theorem dX3_reestimate_25 : decode cX3_reestimate 25 = .ok (.getfield 28, 3) := by decide +kernel
theorem dX3_reestimate_28 : decode cX3_reestimate 28 = .ok (.aload_n 0, 1) := by decide +kernel
theorem dX3_reestimate_29 : decode cX3_reestimate 29 = .ok (.getfield 12, 3) := by decide +kernel
theorem dX3_reestimate_32 : decode cX3_reestimate 32 = .ok (.invokevirtual 71, 3) := by decide +kernel
theorem dX3_reestimate_35 : decode cX3_reestimate 35 = .ok (.aload_n 0, 1) := by decide +kernel
theorem dX3_reestimate_36 : decode cX3_reestimate 36 = .ok (.getfield 12, 3) := by decide +kernel
theorem dX3_reestimate_39 : decode cX3_reestimate 39 = .ok (.iload_n 1, 1) := by decide +kernel
theorem dX3_reestimate_40 : decode cX3_reestimate 40 = .ok (.iload_n 2, 1) := by decide +kernel
theorem dX3_reestimate_41 : decode cX3_reestimate 41 = .ok (.invokevirtual 87, 3) := by decide +kernel
theorem dX3_reestimate_44 : decode cX3_reestimate 44 = .ok (.ireturn, 1) := by decide +kernel
theorem dX3_block_0 : decode cX3_block 0 = .ok (.aload_n 0, 1) := by decide +kernel
theorem dX3_block_1 : decode cX3_block 1 = .ok (.iload_n 1, 1) := by decide +kernel
theorem dX3_block_2 : decode cX3_block 2 = .ok (.invokevirtual 79, 3) := by decide +kernel
theorem dX3_block_5 : decode cX3_block 5 = .ok (.aload_n 0, 1) := by decide +kernel
theorem dX3_block_6 : decode cX3_block 6 = .ok (.iload_n 2, 1) := by decide +kernel
theorem dX3_block_7 : decode cX3_block 7 = .ok (.invokevirtual 79, 3) := by decide +kernel
theorem dX3_block_10 : decode cX3_block 10 = .ok (.iload_n 1, 1) := by decide +kernel
theorem dX3_block_11 : decode cX3_block 11 = .ok (.iload_n 2, 1) := by decide +kernel
theorem dX3_block_12 : decode cX3_block 12 = .ok (.if_icmp .eq 7, 3) := by decide +kernel
theorem dX3_block_15 : decode cX3_block 15 = .ok (.iconst 1, 1) := by decide +kernel
theorem dX3_block_16 : decode cX3_block 16 = .ok (.goto 4, 3) := by decide +kernel
theorem dX3_block_19 : decode cX3_block 19 = .ok (.iconst 0, 1) := by decide +kernel
theorem dX3_block_20 : decode cX3_block 20 = .ok (.invokestatic 61, 3) := by decide +kernel
theorem dX3_block_23 : decode cX3_block 23 = .ok (.aload_n 0, 1) := by decide +kernel
theorem dX3_block_24 : decode cX3_block 24 = .ok (.getfield 12, 3) := by decide +kernel
theorem dX3_block_27 : decode cX3_block 27 = .ok (.iload_n 1, 1) := by decide +kernel
theorem dX3_block_28 : decode cX3_block 28 = .ok (.iload_n 2, 1) := by decide +kernel
theorem dX3_block_29 : decode cX3_block 29 = .ok (.invokevirtual 91, 3) := by decide +kernel
theorem dX3_block_32 : decode cX3_block 32 = .ok (.ifCond .ne 18, 3) := by decide +kernel
theorem dX3_block_35 : decode cX3_block 35 = .ok (.aload_n 0, 1) := by decide +kernel
theorem dX3_block_36 : decode cX3_block 36 = .ok (.getfield 12, 3) := by decide +kernel
theorem dX3_block_39 : decode cX3_block 39 = .ok (.iload_n 1, 1) := by decide +kernel
theorem dX3_block_40 : decode cX3_block 40 = .ok (.invokevirtual 94, 3) := by decide +kernel
theorem dX3_block_43 : decode cX3_block 43 = .ok (.ifCond .ne 7, 3) := by decide +kernel
theorem dX3_block_46 : decode cX3_block 46 = .ok (.iconst 1, 1) := by decide +kernel
theorem dX3_block_47 : decode cX3_block 47 = .ok (.goto 4, 3) := by decide +kernel
theorem dX3_block_50 : decode cX3_block 50 = .ok (.iconst 0, 1) := by decide +kernel
theorem dX3_block_51 : decode cX3_block 51 = .ok (.invokestatic 68, 3) := by decide +kernel
theorem dX3_block_54 : decode cX3_block 54 = .ok (.aload_n 0, 1) := by decide +kernel
theorem dX3_block_55 : decode cX3_block 55 = .ok (.getfield 12, 3) := by decide +kernel
theorem dX3_block_58 : decode cX3_block 58 = .ok (.iload_n 1, 1) := by decide +kernel
theorem dX3_block_59 : decode cX3_block 59 = .ok (.iload_n 2, 1) := by decide +kernel
theorem dX3_block_60 : decode cX3_block 60 = .ok (.invokevirtual 97, 3) := by decide +kernel
theorem dX3_block_63 : decode cX3_block 63 = .ok (.invokestatic 100, 3) := by decide +kernel
theorem dX3_block_66 : decode cX3_block 66 = .ok (.aload_n 0, 1) := by decide +kernel
theorem dX3_block_67 : decode cX3_block 67 = .ok (.getfield 28, 3) := by decide +kernel
theorem dX3_block_70 : decode cX3_block 70 = .ok (.aload_n 0, 1) := by decide +kernel
theorem dX3_block_71 : decode cX3_block 71 = .ok (.getfield 12, 3) := by decide +kernel
theorem dX3_block_74 : decode cX3_block 74 = .ok (.invokevirtual 71, 3) := by decide +kernel
theorem dX3_block_77 : decode cX3_block 77 = .ok (.aload_n 0, 1) := by decide +kernel
theorem dX3_block_78 : decode cX3_block 78 = .ok (.getfield 12, 3) := by decide +kernel
theorem dX3_block_81 : decode cX3_block 81 = .ok (.iload_n 1, 1) := by decide +kernel
theorem dX3_block_82 : decode cX3_block 82 = .ok (.iload_n 2, 1) := by decide +kernel
theorem dX3_block_83 : decode cX3_block 83 = .ok (.invokevirtual 103, 3) := by decide +kernel
theorem dX3_block_86 : decode cX3_block 86 = .ok (.ireturn, 1) := by decide +kernel
theorem dX3_unblock_0 : decode cX3_unblock 0 = .ok (.aload_n 0, 1) := by decide +kernel
theorem dX3_unblock_1 : decode cX3_unblock 1 = .ok (.iload_n 1, 1) := by decide +kernel
theorem dX3_unblock_2 : decode cX3_unblock 2 = .ok (.invokevirtual 79, 3) := by decide +kernel
theorem dX3_unblock_5 : decode cX3_unblock 5 = .ok (.aload_n 0, 1) := by decide +kernel
theorem dX3_unblock_6 : decode cX3_unblock 6 = .ok (.iload_n 2, 1) := by decide +kernel
theorem dX3_unblock_7 : decode cX3_unblock 7 = .ok (.invokevirtual 79, 3) := by decide +kernel
theorem dX3_unblock_10 : decode cX3_unblock 10 = .ok (.aload_n 0, 1) := by decide +kernel
theorem dX3_unblock_11 : decode cX3_unblock 11 = .ok (.getfield 12, 3) := by decide +kernel
theorem dX3_unblock_14 : decode cX3_unblock 14 = .ok (.iload_n 1, 1) := by decide +kernel
theorem dX3_unblock_15 : decode cX3_unblock 15 = .ok (.iload_n 2, 1) := by decide +kernel
theorem dX3_unblock_16 : decode cX3_unblock 16 = .ok (.invokevirtual 106, 3) := by decide +kernel
theorem dX3_unblock_19 : decode cX3_unblock 19 = .ok (.invokestatic 68, 3) := by decide +kernel
theorem dX3_unblock_22 : decode cX3_unblock 22 = .ok (.aload_n 0, 1) := by decide +kernel
theorem dX3_unblock_23 : decode cX3_unblock 23 = .ok (.getfield 28, 3) := by decide +kernel
theorem dX3_unblock_26 : decode cX3_unblock 26 = .ok (.aload_n 0, 1) := by decide +kernel
theorem dX3_unblock_27 : decode cX3_unblock 27 = .ok (.getfield 12, 3) := by decide +kernel
theorem dX3_unblock_30 : decode cX3_unblock 30 = .ok (.invokevirtual 71, 3) := by decide +kernel
theorem dX3_unblock_33 : decode cX3_unblock 33 = .ok (.aload_n 0, 1) := by decide +kernel
theorem dX3_unblock_34 : decode cX3_unblock 34 = .ok (.getfield 12, 3) := by decide +kernel
theorem dX3_unblock_37 : decode cX3_unblock 37 = .ok (.iload_n 1, 1) := by decide +kernel
theorem dX3_unblock_38 : decode cX3_unblock 38 = .ok (.iload_n 2, 1) := by decide +kernel
theorem dX3_unblock_39 : decode cX3_unblock 39 = .ok (.invokevirtual 109, 3) := by decide +kernel
theorem dX3_unblock_42 : decode cX3_unblock 42 = .ok (.ireturn, 1) := by decide +kernel
theorem dX3_storyCount_0 : decode cX3_storyCount 0 = .ok (.aload_n 0, 1) := by decide +kernel
theorem dX3_storyCount_1 : decode cX3_storyCount 1 = .ok (.getfield 12, 3) := by decide +kernel
theorem dX3_storyCount_4 : decode cX3_storyCount 4 = .ok (.getfield 112, 3) := by decide +kernel
theorem dX3_storyCount_7 : decode cX3_storyCount 7 = .ok (.ireturn, 1) := by decide +kernel
theorem dX3_estimateOf_0 : decode cX3_estimateOf 0 = .ok (.aload_n 0, 1) := by decide +kernel
theorem dX3_estimateOf_1 : decode cX3_estimateOf 1 = .ok (.iload_n 1, 1) := by decide +kernel
theorem dX3_estimateOf_2 : decode cX3_estimateOf 2 = .ok (.invokevirtual 79, 3) := by decide +kernel
theorem dX3_estimateOf_5 : decode cX3_estimateOf 5 = .ok (.aload_n 0, 1) := by decide +kernel
theorem dX3_estimateOf_6 : decode cX3_estimateOf 6 = .ok (.getfield 12, 3) := by decide +kernel
theorem dX3_estimateOf_9 : decode cX3_estimateOf 9 = .ok (.getfield 115, 3) := by decide +kernel
theorem dX3_estimateOf_12 : decode cX3_estimateOf 12 = .ok (.iload_n 1, 1) := by decide +kernel
theorem dX3_estimateOf_13 : decode cX3_estimateOf 13 = .ok (.iaload, 1) := by decide +kernel
theorem dX3_estimateOf_14 : decode cX3_estimateOf 14 = .ok (.ireturn, 1) := by decide +kernel
theorem dX3_leftOf_0 : decode cX3_leftOf 0 = .ok (.aload_n 0, 1) := by decide +kernel
theorem dX3_leftOf_1 : decode cX3_leftOf 1 = .ok (.iload_n 1, 1) := by decide +kernel
theorem dX3_leftOf_2 : decode cX3_leftOf 2 = .ok (.invokevirtual 79, 3) := by decide +kernel
theorem dX3_leftOf_5 : decode cX3_leftOf 5 = .ok (.aload_n 0, 1) := by decide +kernel
theorem dX3_leftOf_6 : decode cX3_leftOf 6 = .ok (.getfield 12, 3) := by decide +kernel
theorem dX3_leftOf_9 : decode cX3_leftOf 9 = .ok (.getfield 118, 3) := by decide +kernel
theorem dX3_leftOf_12 : decode cX3_leftOf 12 = .ok (.iload_n 1, 1) := by decide +kernel
theorem dX3_leftOf_13 : decode cX3_leftOf 13 = .ok (.iaload, 1) := by decide +kernel
theorem dX3_leftOf_14 : decode cX3_leftOf 14 = .ok (.ireturn, 1) := by decide +kernel
theorem dX3_workedOn_0 : decode cX3_workedOn 0 = .ok (.aload_n 0, 1) := by decide +kernel
theorem dX3_workedOn_1 : decode cX3_workedOn 1 = .ok (.iload_n 1, 1) := by decide +kernel
theorem dX3_workedOn_2 : decode cX3_workedOn 2 = .ok (.invokevirtual 79, 3) := by decide +kernel
theorem dX3_workedOn_5 : decode cX3_workedOn 5 = .ok (.aload_n 0, 1) := by decide +kernel
theorem dX3_workedOn_6 : decode cX3_workedOn 6 = .ok (.getfield 12, 3) := by decide +kernel
theorem dX3_workedOn_9 : decode cX3_workedOn 9 = .ok (.getfield 115, 3) := by decide +kernel
theorem dX3_workedOn_12 : decode cX3_workedOn 12 = .ok (.iload_n 1, 1) := by decide +kernel
theorem dX3_workedOn_13 : decode cX3_workedOn 13 = .ok (.iaload, 1) := by decide +kernel
theorem dX3_workedOn_14 : decode cX3_workedOn 14 = .ok (.aload_n 0, 1) := by decide +kernel
theorem dX3_workedOn_15 : decode cX3_workedOn 15 = .ok (.getfield 12, 3) := by decide +kernel
theorem dX3_workedOn_18 : decode cX3_workedOn 18 = .ok (.getfield 118, 3) := by decide +kernel
theorem dX3_workedOn_21 : decode cX3_workedOn 21 = .ok (.iload_n 1, 1) := by decide +kernel
theorem dX3_workedOn_22 : decode cX3_workedOn 22 = .ok (.iaload, 1) := by decide +kernel
theorem dX3_workedOn_23 : decode cX3_workedOn 23 = .ok (.isub, 1) := by decide +kernel
theorem dX3_workedOn_24 : decode cX3_workedOn 24 = .ok (.ireturn, 1) := by decide +kernel
theorem dX3_isDone_0 : decode cX3_isDone 0 = .ok (.aload_n 0, 1) := by decide +kernel
theorem dX3_isDone_1 : decode cX3_isDone 1 = .ok (.iload_n 1, 1) := by decide +kernel
theorem dX3_isDone_2 : decode cX3_isDone 2 = .ok (.invokevirtual 79, 3) := by decide +kernel
theorem dX3_isDone_5 : decode cX3_isDone 5 = .ok (.aload_n 0, 1) := by decide +kernel
theorem dX3_isDone_6 : decode cX3_isDone 6 = .ok (.getfield 12, 3) := by decide +kernel
theorem dX3_isDone_9 : decode cX3_isDone 9 = .ok (.iload_n 1, 1) := by decide +kernel
theorem dX3_isDone_10 : decode cX3_isDone 10 = .ok (.invokevirtual 94, 3) := by decide +kernel
theorem dX3_isDone_13 : decode cX3_isDone 13 = .ok (.ireturn, 1) := by decide +kernel
theorem dX3_isBlocked_0 : decode cX3_isBlocked 0 = .ok (.aload_n 0, 1) := by decide +kernel
theorem dX3_isBlocked_1 : decode cX3_isBlocked 1 = .ok (.iload_n 1, 1) := by decide +kernel
theorem dX3_isBlocked_2 : decode cX3_isBlocked 2 = .ok (.invokevirtual 79, 3) := by decide +kernel
theorem dX3_isBlocked_5 : decode cX3_isBlocked 5 = .ok (.aload_n 0, 1) := by decide +kernel
theorem dX3_isBlocked_6 : decode cX3_isBlocked 6 = .ok (.getfield 12, 3) := by decide +kernel
theorem dX3_isBlocked_9 : decode cX3_isBlocked 9 = .ok (.iload_n 1, 1) := by decide +kernel
theorem dX3_isBlocked_10 : decode cX3_isBlocked 10 = .ok (.invokevirtual 121, 3) := by decide +kernel
theorem dX3_isBlocked_13 : decode cX3_isBlocked 13 = .ok (.ifCond .le 7, 3) := by decide +kernel
theorem dX3_isBlocked_16 : decode cX3_isBlocked 16 = .ok (.iconst 1, 1) := by decide +kernel
theorem dX3_isBlocked_17 : decode cX3_isBlocked 17 = .ok (.goto 4, 3) := by decide +kernel
theorem dX3_isBlocked_20 : decode cX3_isBlocked 20 = .ok (.iconst 0, 1) := by decide +kernel
theorem dX3_isBlocked_21 : decode cX3_isBlocked 21 = .ok (.ireturn, 1) := by decide +kernel
theorem dX3_openBlockers_0 : decode cX3_openBlockers 0 = .ok (.aload_n 0, 1) := by decide +kernel
theorem dX3_openBlockers_1 : decode cX3_openBlockers 1 = .ok (.iload_n 1, 1) := by decide +kernel
theorem dX3_openBlockers_2 : decode cX3_openBlockers 2 = .ok (.invokevirtual 79, 3) := by decide +kernel
theorem dX3_openBlockers_5 : decode cX3_openBlockers 5 = .ok (.aload_n 0, 1) := by decide +kernel
theorem dX3_openBlockers_6 : decode cX3_openBlockers 6 = .ok (.getfield 12, 3) := by decide +kernel
theorem dX3_openBlockers_9 : decode cX3_openBlockers 9 = .ok (.iload_n 1, 1) := by decide +kernel
theorem dX3_openBlockers_10 : decode cX3_openBlockers 10 = .ok (.invokevirtual 121, 3) := by decide +kernel
theorem dX3_openBlockers_13 : decode cX3_openBlockers 13 = .ok (.ireturn, 1) := by decide +kernel
theorem dX3_isBlocker_0 : decode cX3_isBlocker 0 = .ok (.aload_n 0, 1) := by decide +kernel
theorem dX3_isBlocker_1 : decode cX3_isBlocker 1 = .ok (.iload_n 1, 1) := by decide +kernel
theorem dX3_isBlocker_2 : decode cX3_isBlocker 2 = .ok (.invokevirtual 79, 3) := by decide +kernel
theorem dX3_isBlocker_5 : decode cX3_isBlocker 5 = .ok (.aload_n 0, 1) := by decide +kernel
theorem dX3_isBlocker_6 : decode cX3_isBlocker 6 = .ok (.iload_n 2, 1) := by decide +kernel
theorem dX3_isBlocker_7 : decode cX3_isBlocker 7 = .ok (.invokevirtual 79, 3) := by decide +kernel
theorem dX3_isBlocker_10 : decode cX3_isBlocker 10 = .ok (.aload_n 0, 1) := by decide +kernel
theorem dX3_isBlocker_11 : decode cX3_isBlocker 11 = .ok (.getfield 12, 3) := by decide +kernel
theorem dX3_isBlocker_14 : decode cX3_isBlocker 14 = .ok (.iload_n 1, 1) := by decide +kernel
theorem dX3_isBlocker_15 : decode cX3_isBlocker 15 = .ok (.iload_n 2, 1) := by decide +kernel
theorem dX3_isBlocker_16 : decode cX3_isBlocker 16 = .ok (.invokevirtual 91, 3) := by decide +kernel
theorem dX3_isBlocker_19 : decode cX3_isBlocker 19 = .ok (.ireturn, 1) := by decide +kernel
theorem dX3_dependsOn_0 : decode cX3_dependsOn 0 = .ok (.aload_n 0, 1) := by decide +kernel
theorem dX3_dependsOn_1 : decode cX3_dependsOn 1 = .ok (.iload_n 1, 1) := by decide +kernel
theorem dX3_dependsOn_2 : decode cX3_dependsOn 2 = .ok (.invokevirtual 79, 3) := by decide +kernel
theorem dX3_dependsOn_5 : decode cX3_dependsOn 5 = .ok (.aload_n 0, 1) := by decide +kernel
theorem dX3_dependsOn_6 : decode cX3_dependsOn 6 = .ok (.iload_n 2, 1) := by decide +kernel
theorem dX3_dependsOn_7 : decode cX3_dependsOn 7 = .ok (.invokevirtual 79, 3) := by decide +kernel
theorem dX3_dependsOn_10 : decode cX3_dependsOn 10 = .ok (.aload_n 0, 1) := by decide +kernel
theorem dX3_dependsOn_11 : decode cX3_dependsOn 11 = .ok (.getfield 12, 3) := by decide +kernel
theorem dX3_dependsOn_14 : decode cX3_dependsOn 14 = .ok (.iload_n 1, 1) := by decide +kernel
theorem dX3_dependsOn_15 : decode cX3_dependsOn 15 = .ok (.iload_n 2, 1) := by decide +kernel
theorem dX3_dependsOn_16 : decode cX3_dependsOn 16 = .ok (.invokevirtual 124, 3) := by decide +kernel
theorem dX3_dependsOn_19 : decode cX3_dependsOn 19 = .ok (.ireturn, 1) := by decide +kernel
theorem dX3_dependsOnByClosure_0 : decode cX3_dependsOnByClosure 0 = .ok (.aload_n 0, 1) := by decide +kernel
theorem dX3_dependsOnByClosure_1 : decode cX3_dependsOnByClosure 1 = .ok (.iload_n 1, 1) := by decide +kernel
theorem dX3_dependsOnByClosure_2 : decode cX3_dependsOnByClosure 2 = .ok (.invokevirtual 79, 3) := by decide +kernel
theorem dX3_dependsOnByClosure_5 : decode cX3_dependsOnByClosure 5 = .ok (.aload_n 0, 1) := by decide +kernel
theorem dX3_dependsOnByClosure_6 : decode cX3_dependsOnByClosure 6 = .ok (.iload_n 2, 1) := by decide +kernel
theorem dX3_dependsOnByClosure_7 : decode cX3_dependsOnByClosure 7 = .ok (.invokevirtual 79, 3) := by decide +kernel
theorem dX3_dependsOnByClosure_10 : decode cX3_dependsOnByClosure 10 = .ok (.aload_n 0, 1) := by decide +kernel
theorem dX3_dependsOnByClosure_11 : decode cX3_dependsOnByClosure 11 = .ok (.getfield 12, 3) := by decide +kernel
theorem dX3_dependsOnByClosure_14 : decode cX3_dependsOnByClosure 14 = .ok (.aload_n 0, 1) := by decide +kernel
theorem dX3_dependsOnByClosure_15 : decode cX3_dependsOnByClosure 15 = .ok (.getfield 46, 3) := by decide +kernel
theorem dX3_dependsOnByClosure_18 : decode cX3_dependsOnByClosure 18 = .ok (.invokevirtual 127, 3) := by decide +kernel
theorem dX3_dependsOnByClosure_21 : decode cX3_dependsOnByClosure 21 = .ok (.aload_n 0, 1) := by decide +kernel
theorem dX3_dependsOnByClosure_22 : decode cX3_dependsOnByClosure 22 = .ok (.getfield 46, 3) := by decide +kernel
theorem dX3_dependsOnByClosure_25 : decode cX3_dependsOnByClosure 25 = .ok (.iload_n 1, 1) := by decide +kernel
theorem dX3_dependsOnByClosure_26 : decode cX3_dependsOnByClosure 26 = .ok (.iaload, 1) := by decide +kernel
theorem dX3_dependsOnByClosure_27 : decode cX3_dependsOnByClosure 27 = .ok (.iload_n 2, 1) := by decide +kernel
theorem dX3_dependsOnByClosure_28 : decode cX3_dependsOnByClosure 28 = .ok (.invokestatic 131, 3) := by decide +kernel
theorem dX3_dependsOnByClosure_31 : decode cX3_dependsOnByClosure 31 = .ok (.ireturn, 1) := by decide +kernel
theorem dX3_longestChain_0 : decode cX3_longestChain 0 = .ok (.aload_n 0, 1) := by decide +kernel
theorem dX3_longestChain_1 : decode cX3_longestChain 1 = .ok (.iload_n 1, 1) := by decide +kernel
theorem dX3_longestChain_2 : decode cX3_longestChain 2 = .ok (.invokevirtual 79, 3) := by decide +kernel
theorem dX3_longestChain_5 : decode cX3_longestChain 5 = .ok (.aload_n 0, 1) := by decide +kernel
theorem dX3_longestChain_6 : decode cX3_longestChain 6 = .ok (.getfield 12, 3) := by decide +kernel
theorem dX3_longestChain_9 : decode cX3_longestChain 9 = .ok (.iload_n 1, 1) := by decide +kernel
theorem dX3_longestChain_10 : decode cX3_longestChain 10 = .ok (.invokevirtual 134, 3) := by decide +kernel
theorem dX3_longestChain_13 : decode cX3_longestChain 13 = .ok (.ireturn, 1) := by decide +kernel
theorem dX3_storyInOrder_0 : decode cX3_storyInOrder 0 = .ok (.aload_n 0, 1) := by decide +kernel
theorem dX3_storyInOrder_1 : decode cX3_storyInOrder 1 = .ok (.getfield 12, 3) := by decide +kernel
theorem dX3_storyInOrder_4 : decode cX3_storyInOrder 4 = .ok (.iload_n 1, 1) := by decide +kernel
theorem dX3_storyInOrder_5 : decode cX3_storyInOrder 5 = .ok (.invokevirtual 137, 3) := by decide +kernel
theorem dX3_storyInOrder_8 : decode cX3_storyInOrder 8 = .ok (.istore_n 2, 1) := by decide +kernel
theorem dX3_storyInOrder_9 : decode cX3_storyInOrder 9 = .ok (.iload_n 2, 1) := by decide +kernel
theorem dX3_storyInOrder_10 : decode cX3_storyInOrder 10 = .ok (.iconst (-1), 1) := by decide +kernel
theorem dX3_storyInOrder_11 : decode cX3_storyInOrder 11 = .ok (.if_icmp .eq 7, 3) := by decide +kernel
theorem dX3_storyInOrder_14 : decode cX3_storyInOrder 14 = .ok (.iconst 1, 1) := by decide +kernel
theorem dX3_storyInOrder_15 : decode cX3_storyInOrder 15 = .ok (.goto 4, 3) := by decide +kernel
theorem dX3_storyInOrder_18 : decode cX3_storyInOrder 18 = .ok (.iconst 0, 1) := by decide +kernel
theorem dX3_storyInOrder_19 : decode cX3_storyInOrder 19 = .ok (.invokestatic 140, 3) := by decide +kernel
theorem dX3_storyInOrder_22 : decode cX3_storyInOrder 22 = .ok (.iload_n 2, 1) := by decide +kernel
theorem dX3_storyInOrder_23 : decode cX3_storyInOrder 23 = .ok (.ireturn, 1) := by decide +kernel
theorem dX3_addDeveloper_0 : decode cX3_addDeveloper 0 = .ok (.iload_n 1, 1) := by decide +kernel
theorem dX3_addDeveloper_1 : decode cX3_addDeveloper 1 = .ok (.invokestatic 143, 3) := by decide +kernel
theorem dX3_addDeveloper_4 : decode cX3_addDeveloper 4 = .ok (.invokestatic 61, 3) := by decide +kernel
theorem dX3_addDeveloper_7 : decode cX3_addDeveloper 7 = .ok (.aload_n 0, 1) := by decide +kernel
theorem dX3_addDeveloper_8 : decode cX3_addDeveloper 8 = .ok (.getfield 12, 3) := by decide +kernel
theorem dX3_addDeveloper_11 : decode cX3_addDeveloper 11 = .ok (.iload_n 1, 1) := by decide +kernel
theorem dX3_addDeveloper_12 : decode cX3_addDeveloper 12 = .ok (.invokevirtual 146, 3) := by decide +kernel
theorem dX3_addDeveloper_15 : decode cX3_addDeveloper 15 = .ok (.invokestatic 68, 3) := by decide +kernel
theorem dX3_addDeveloper_18 : decode cX3_addDeveloper 18 = .ok (.aload_n 0, 1) := by decide +kernel
theorem dX3_addDeveloper_19 : decode cX3_addDeveloper 19 = .ok (.getfield 28, 3) := by decide +kernel
theorem dX3_addDeveloper_22 : decode cX3_addDeveloper 22 = .ok (.aload_n 0, 1) := by decide +kernel
theorem dX3_addDeveloper_23 : decode cX3_addDeveloper 23 = .ok (.getfield 12, 3) := by decide +kernel
theorem dX3_addDeveloper_26 : decode cX3_addDeveloper 26 = .ok (.invokevirtual 71, 3) := by decide +kernel
theorem dX3_addDeveloper_29 : decode cX3_addDeveloper 29 = .ok (.aload_n 0, 1) := by decide +kernel
theorem dX3_addDeveloper_30 : decode cX3_addDeveloper 30 = .ok (.getfield 12, 3) := by decide +kernel
theorem dX3_addDeveloper_33 : decode cX3_addDeveloper 33 = .ok (.iload_n 1, 1) := by decide +kernel
theorem dX3_addDeveloper_34 : decode cX3_addDeveloper 34 = .ok (.invokevirtual 149, 3) := by decide +kernel
theorem dX3_addDeveloper_37 : decode cX3_addDeveloper 37 = .ok (.ireturn, 1) := by decide +kernel
theorem dX3_assign_0 : decode cX3_assign 0 = .ok (.aload_n 0, 1) := by decide +kernel
theorem dX3_assign_1 : decode cX3_assign 1 = .ok (.iload_n 1, 1) := by decide +kernel
theorem dX3_assign_2 : decode cX3_assign 2 = .ok (.invokevirtual 79, 3) := by decide +kernel
theorem dX3_assign_5 : decode cX3_assign 5 = .ok (.aload_n 0, 1) := by decide +kernel
theorem dX3_assign_6 : decode cX3_assign 6 = .ok (.iload_n 2, 1) := by decide +kernel
theorem dX3_assign_7 : decode cX3_assign 7 = .ok (.invokevirtual 152, 3) := by decide +kernel
theorem dX3_assign_10 : decode cX3_assign 10 = .ok (.aload_n 0, 1) := by decide +kernel
theorem dX3_assign_11 : decode cX3_assign 11 = .ok (.getfield 12, 3) := by decide +kernel
theorem dX3_assign_14 : decode cX3_assign 14 = .ok (.getfield 155, 3) := by decide +kernel
theorem dX3_assign_17 : decode cX3_assign 17 = .ok (.invokestatic 100, 3) := by decide +kernel
theorem dX3_assign_20 : decode cX3_assign 20 = .ok (.aload_n 0, 1) := by decide +kernel
theorem dX3_assign_21 : decode cX3_assign 21 = .ok (.getfield 12, 3) := by decide +kernel
theorem dX3_assign_24 : decode cX3_assign 24 = .ok (.iload_n 1, 1) := by decide +kernel
theorem dX3_assign_25 : decode cX3_assign 25 = .ok (.iload_n 2, 1) := by decide +kernel
theorem dX3_assign_26 : decode cX3_assign 26 = .ok (.invokevirtual 159, 3) := by decide +kernel
theorem dX3_assign_29 : decode cX3_assign 29 = .ok (.invokestatic 68, 3) := by decide +kernel
theorem dX3_assign_32 : decode cX3_assign 32 = .ok (.aload_n 0, 1) := by decide +kernel
theorem dX3_assign_33 : decode cX3_assign 33 = .ok (.getfield 28, 3) := by decide +kernel
theorem dX3_assign_36 : decode cX3_assign 36 = .ok (.aload_n 0, 1) := by decide +kernel
theorem dX3_assign_37 : decode cX3_assign 37 = .ok (.getfield 12, 3) := by decide +kernel
theorem dX3_assign_40 : decode cX3_assign 40 = .ok (.invokevirtual 71, 3) := by decide +kernel
theorem dX3_assign_43 : decode cX3_assign 43 = .ok (.aload_n 0, 1) := by decide +kernel
theorem dX3_assign_44 : decode cX3_assign 44 = .ok (.getfield 12, 3) := by decide +kernel
theorem dX3_assign_47 : decode cX3_assign 47 = .ok (.iload_n 1, 1) := by decide +kernel
theorem dX3_assign_48 : decode cX3_assign 48 = .ok (.iload_n 2, 1) := by decide +kernel
theorem dX3_assign_49 : decode cX3_assign 49 = .ok (.invokevirtual 162, 3) := by decide +kernel
theorem dX3_assign_52 : decode cX3_assign 52 = .ok (.aload_n 0, 1) := by decide +kernel
theorem dX3_assign_53 : decode cX3_assign 53 = .ok (.getfield 12, 3) := by decide +kernel
theorem dX3_assign_56 : decode cX3_assign 56 = .ok (.iload_n 1, 1) := by decide +kernel
theorem dX3_assign_57 : decode cX3_assign 57 = .ok (.invokevirtual 121, 3) := by decide +kernel
theorem dX3_assign_60 : decode cX3_assign 60 = .ok (.ifCond .le 7, 3) := by decide +kernel
theorem dX3_assign_63 : decode cX3_assign 63 = .ok (.iconst 1, 1) := by decide +kernel
theorem dX3_assign_64 : decode cX3_assign 64 = .ok (.goto 4, 3) := by decide +kernel
theorem dX3_assign_67 : decode cX3_assign 67 = .ok (.iconst 0, 1) := by decide +kernel
theorem dX3_assign_68 : decode cX3_assign 68 = .ok (.ireturn, 1) := by decide +kernel
theorem dX3_unassign_0 : decode cX3_unassign 0 = .ok (.aload_n 0, 1) := by decide +kernel
theorem dX3_unassign_1 : decode cX3_unassign 1 = .ok (.iload_n 1, 1) := by decide +kernel
theorem dX3_unassign_2 : decode cX3_unassign 2 = .ok (.invokevirtual 152, 3) := by decide +kernel
theorem dX3_unassign_5 : decode cX3_unassign 5 = .ok (.aload_n 0, 1) := by decide +kernel
theorem dX3_unassign_6 : decode cX3_unassign 6 = .ok (.getfield 12, 3) := by decide +kernel
theorem dX3_unassign_9 : decode cX3_unassign 9 = .ok (.iload_n 1, 1) := by decide +kernel
theorem dX3_unassign_10 : decode cX3_unassign 10 = .ok (.invokevirtual 166, 3) := by decide +kernel
theorem dX3_unassign_13 : decode cX3_unassign 13 = .ok (.invokestatic 68, 3) := by decide +kernel
theorem dX3_unassign_16 : decode cX3_unassign 16 = .ok (.aload_n 0, 1) := by decide +kernel
theorem dX3_unassign_17 : decode cX3_unassign 17 = .ok (.getfield 28, 3) := by decide +kernel
theorem dX3_unassign_20 : decode cX3_unassign 20 = .ok (.aload_n 0, 1) := by decide +kernel
theorem dX3_unassign_21 : decode cX3_unassign 21 = .ok (.getfield 12, 3) := by decide +kernel
theorem dX3_unassign_24 : decode cX3_unassign 24 = .ok (.invokevirtual 71, 3) := by decide +kernel
theorem dX3_unassign_27 : decode cX3_unassign 27 = .ok (.aload_n 0, 1) := by decide +kernel
theorem dX3_unassign_28 : decode cX3_unassign 28 = .ok (.getfield 12, 3) := by decide +kernel
theorem dX3_unassign_31 : decode cX3_unassign 31 = .ok (.iload_n 1, 1) := by decide +kernel
theorem dX3_unassign_32 : decode cX3_unassign 32 = .ok (.invokevirtual 169, 3) := by decide +kernel
theorem dX3_unassign_35 : decode cX3_unassign 35 = .ok (.ireturn, 1) := by decide +kernel
theorem dX3_developerCount_0 : decode cX3_developerCount 0 = .ok (.aload_n 0, 1) := by decide +kernel
theorem dX3_developerCount_1 : decode cX3_developerCount 1 = .ok (.getfield 12, 3) := by decide +kernel
theorem dX3_developerCount_4 : decode cX3_developerCount 4 = .ok (.getfield 172, 3) := by decide +kernel
theorem dX3_developerCount_7 : decode cX3_developerCount 7 = .ok (.ireturn, 1) := by decide +kernel
theorem dX3_speedOf_0 : decode cX3_speedOf 0 = .ok (.aload_n 0, 1) := by decide +kernel
theorem dX3_speedOf_1 : decode cX3_speedOf 1 = .ok (.iload_n 1, 1) := by decide +kernel
theorem dX3_speedOf_2 : decode cX3_speedOf 2 = .ok (.invokevirtual 152, 3) := by decide +kernel
theorem dX3_speedOf_5 : decode cX3_speedOf 5 = .ok (.aload_n 0, 1) := by decide +kernel
theorem dX3_speedOf_6 : decode cX3_speedOf 6 = .ok (.getfield 12, 3) := by decide +kernel
theorem dX3_speedOf_9 : decode cX3_speedOf 9 = .ok (.getfield 175, 3) := by decide +kernel
theorem dX3_speedOf_12 : decode cX3_speedOf 12 = .ok (.iload_n 1, 1) := by decide +kernel
theorem dX3_speedOf_13 : decode cX3_speedOf 13 = .ok (.iaload, 1) := by decide +kernel
theorem dX3_speedOf_14 : decode cX3_speedOf 14 = .ok (.ireturn, 1) := by decide +kernel
theorem dX3_storyOf_0 : decode cX3_storyOf 0 = .ok (.aload_n 0, 1) := by decide +kernel
theorem dX3_storyOf_1 : decode cX3_storyOf 1 = .ok (.iload_n 1, 1) := by decide +kernel
theorem dX3_storyOf_2 : decode cX3_storyOf 2 = .ok (.invokevirtual 152, 3) := by decide +kernel
theorem dX3_storyOf_5 : decode cX3_storyOf 5 = .ok (.aload_n 0, 1) := by decide +kernel
theorem dX3_storyOf_6 : decode cX3_storyOf 6 = .ok (.getfield 12, 3) := by decide +kernel
theorem dX3_storyOf_9 : decode cX3_storyOf 9 = .ok (.getfield 178, 3) := by decide +kernel
theorem dX3_storyOf_12 : decode cX3_storyOf 12 = .ok (.iload_n 1, 1) := by decide +kernel
theorem dX3_storyOf_13 : decode cX3_storyOf 13 = .ok (.iaload, 1) := by decide +kernel
theorem dX3_storyOf_14 : decode cX3_storyOf 14 = .ok (.istore_n 2, 1) := by decide +kernel
theorem dX3_storyOf_15 : decode cX3_storyOf 15 = .ok (.iload_n 2, 1) := by decide +kernel
theorem dX3_storyOf_16 : decode cX3_storyOf 16 = .ok (.iconst (-1), 1) := by decide +kernel
theorem dX3_storyOf_17 : decode cX3_storyOf 17 = .ok (.if_icmp .eq 7, 3) := by decide +kernel
theorem dX3_storyOf_20 : decode cX3_storyOf 20 = .ok (.iconst 1, 1) := by decide +kernel
theorem dX3_storyOf_21 : decode cX3_storyOf 21 = .ok (.goto 4, 3) := by decide +kernel
theorem dX3_storyOf_24 : decode cX3_storyOf 24 = .ok (.iconst 0, 1) := by decide +kernel
theorem dX3_storyOf_25 : decode cX3_storyOf 25 = .ok (.invokestatic 140, 3) := by decide +kernel
theorem dX3_storyOf_28 : decode cX3_storyOf 28 = .ok (.iload_n 2, 1) := by decide +kernel
theorem dX3_storyOf_29 : decode cX3_storyOf 29 = .ok (.ireturn, 1) := by decide +kernel
theorem dX3_developerOf_0 : decode cX3_developerOf 0 = .ok (.aload_n 0, 1) := by decide +kernel
theorem dX3_developerOf_1 : decode cX3_developerOf 1 = .ok (.iload_n 1, 1) := by decide +kernel
theorem dX3_developerOf_2 : decode cX3_developerOf 2 = .ok (.invokevirtual 79, 3) := by decide +kernel
theorem dX3_developerOf_5 : decode cX3_developerOf 5 = .ok (.aload_n 0, 1) := by decide +kernel
theorem dX3_developerOf_6 : decode cX3_developerOf 6 = .ok (.getfield 12, 3) := by decide +kernel
theorem dX3_developerOf_9 : decode cX3_developerOf 9 = .ok (.iload_n 1, 1) := by decide +kernel
theorem dX3_developerOf_10 : decode cX3_developerOf 10 = .ok (.invokevirtual 181, 3) := by decide +kernel
theorem dX3_developerOf_13 : decode cX3_developerOf 13 = .ok (.istore_n 2, 1) := by decide +kernel
theorem dX3_developerOf_14 : decode cX3_developerOf 14 = .ok (.iload_n 2, 1) := by decide +kernel
theorem dX3_developerOf_15 : decode cX3_developerOf 15 = .ok (.iconst (-1), 1) := by decide +kernel
theorem dX3_developerOf_16 : decode cX3_developerOf 16 = .ok (.if_icmp .eq 7, 3) := by decide +kernel
theorem dX3_developerOf_19 : decode cX3_developerOf 19 = .ok (.iconst 1, 1) := by decide +kernel
theorem dX3_developerOf_20 : decode cX3_developerOf 20 = .ok (.goto 4, 3) := by decide +kernel
theorem dX3_developerOf_23 : decode cX3_developerOf 23 = .ok (.iconst 0, 1) := by decide +kernel
theorem dX3_developerOf_24 : decode cX3_developerOf 24 = .ok (.invokestatic 140, 3) := by decide +kernel
theorem dX3_developerOf_27 : decode cX3_developerOf 27 = .ok (.iload_n 2, 1) := by decide +kernel
theorem dX3_developerOf_28 : decode cX3_developerOf 28 = .ok (.ireturn, 1) := by decide +kernel
theorem dX3_plan_0 : decode cX3_plan 0 = .ok (.aload_n 0, 1) := by decide +kernel
theorem dX3_plan_1 : decode cX3_plan 1 = .ok (.iload_n 1, 1) := by decide +kernel
theorem dX3_plan_2 : decode cX3_plan 2 = .ok (.invokevirtual 79, 3) := by decide +kernel
theorem dX3_plan_5 : decode cX3_plan 5 = .ok (.aload_n 0, 1) := by decide +kernel
theorem dX3_plan_6 : decode cX3_plan 6 = .ok (.getfield 12, 3) := by decide +kernel
theorem dX3_plan_9 : decode cX3_plan 9 = .ok (.iload_n 1, 1) := by decide +kernel
theorem dX3_plan_10 : decode cX3_plan 10 = .ok (.invokevirtual 184, 3) := by decide +kernel
theorem dX3_plan_13 : decode cX3_plan 13 = .ok (.invokestatic 68, 3) := by decide +kernel
theorem dX3_plan_16 : decode cX3_plan 16 = .ok (.aload_n 0, 1) := by decide +kernel
theorem dX3_plan_17 : decode cX3_plan 17 = .ok (.getfield 28, 3) := by decide +kernel
theorem dX3_plan_20 : decode cX3_plan 20 = .ok (.aload_n 0, 1) := by decide +kernel
theorem dX3_plan_21 : decode cX3_plan 21 = .ok (.getfield 12, 3) := by decide +kernel
theorem dX3_plan_24 : decode cX3_plan 24 = .ok (.invokevirtual 71, 3) := by decide +kernel
theorem dX3_plan_27 : decode cX3_plan 27 = .ok (.aload_n 0, 1) := by decide +kernel
theorem dX3_plan_28 : decode cX3_plan 28 = .ok (.getfield 12, 3) := by decide +kernel
theorem dX3_plan_31 : decode cX3_plan 31 = .ok (.iload_n 1, 1) := by decide +kernel
theorem dX3_plan_32 : decode cX3_plan 32 = .ok (.invokevirtual 187, 3) := by decide +kernel
theorem dX3_plan_35 : decode cX3_plan 35 = .ok (.ireturn, 1) := by decide +kernel
theorem dX3_unplan_0 : decode cX3_unplan 0 = .ok (.aload_n 0, 1) := by decide +kernel
theorem dX3_unplan_1 : decode cX3_unplan 1 = .ok (.iload_n 1, 1) := by decide +kernel
theorem dX3_unplan_2 : decode cX3_unplan 2 = .ok (.invokevirtual 79, 3) := by decide +kernel
theorem dX3_unplan_5 : decode cX3_unplan 5 = .ok (.aload_n 0, 1) := by decide +kernel
theorem dX3_unplan_6 : decode cX3_unplan 6 = .ok (.getfield 12, 3) := by decide +kernel
theorem dX3_unplan_9 : decode cX3_unplan 9 = .ok (.iload_n 1, 1) := by decide +kernel
theorem dX3_unplan_10 : decode cX3_unplan 10 = .ok (.invokevirtual 190, 3) := by decide +kernel
theorem dX3_unplan_13 : decode cX3_unplan 13 = .ok (.invokestatic 68, 3) := by decide +kernel
theorem dX3_unplan_16 : decode cX3_unplan 16 = .ok (.aload_n 0, 1) := by decide +kernel
theorem dX3_unplan_17 : decode cX3_unplan 17 = .ok (.getfield 28, 3) := by decide +kernel
theorem dX3_unplan_20 : decode cX3_unplan 20 = .ok (.aload_n 0, 1) := by decide +kernel
theorem dX3_unplan_21 : decode cX3_unplan 21 = .ok (.getfield 12, 3) := by decide +kernel
theorem dX3_unplan_24 : decode cX3_unplan 24 = .ok (.invokevirtual 71, 3) := by decide +kernel
theorem dX3_unplan_27 : decode cX3_unplan 27 = .ok (.aload_n 0, 1) := by decide +kernel
theorem dX3_unplan_28 : decode cX3_unplan 28 = .ok (.getfield 12, 3) := by decide +kernel
theorem dX3_unplan_31 : decode cX3_unplan 31 = .ok (.iload_n 1, 1) := by decide +kernel
theorem dX3_unplan_32 : decode cX3_unplan 32 = .ok (.invokevirtual 193, 3) := by decide +kernel
theorem dX3_unplan_35 : decode cX3_unplan 35 = .ok (.ireturn, 1) := by decide +kernel
theorem dX3_startSprint_0 : decode cX3_startSprint 0 = .ok (.iload_n 1, 1) := by decide +kernel
theorem dX3_startSprint_1 : decode cX3_startSprint 1 = .ok (.invokestatic 196, 3) := by decide +kernel
theorem dX3_startSprint_4 : decode cX3_startSprint 4 = .ok (.invokestatic 61, 3) := by decide +kernel
theorem dX3_startSprint_7 : decode cX3_startSprint 7 = .ok (.aload_n 0, 1) := by decide +kernel
theorem dX3_startSprint_8 : decode cX3_startSprint 8 = .ok (.getfield 12, 3) := by decide +kernel
theorem dX3_startSprint_11 : decode cX3_startSprint 11 = .ok (.iload_n 1, 1) := by decide +kernel
theorem dX3_startSprint_12 : decode cX3_startSprint 12 = .ok (.invokevirtual 199, 3) := by decide +kernel
theorem dX3_startSprint_15 : decode cX3_startSprint 15 = .ok (.invokestatic 68, 3) := by decide +kernel
theorem dX3_startSprint_18 : decode cX3_startSprint 18 = .ok (.aload_n 0, 1) := by decide +kernel
theorem dX3_startSprint_19 : decode cX3_startSprint 19 = .ok (.getfield 28, 3) := by decide +kernel
theorem dX3_startSprint_22 : decode cX3_startSprint 22 = .ok (.aload_n 0, 1) := by decide +kernel
theorem dX3_startSprint_23 : decode cX3_startSprint 23 = .ok (.getfield 12, 3) := by decide +kernel
theorem dX3_startSprint_26 : decode cX3_startSprint 26 = .ok (.invokevirtual 71, 3) := by decide +kernel
theorem dX3_startSprint_29 : decode cX3_startSprint 29 = .ok (.aload_n 0, 1) := by decide +kernel
theorem dX3_startSprint_30 : decode cX3_startSprint 30 = .ok (.getfield 12, 3) := by decide +kernel
theorem dX3_startSprint_33 : decode cX3_startSprint 33 = .ok (.iload_n 1, 1) := by decide +kernel
theorem dX3_startSprint_34 : decode cX3_startSprint 34 = .ok (.invokevirtual 202, 3) := by decide +kernel
theorem dX3_startSprint_37 : decode cX3_startSprint 37 = .ok (.ireturn, 1) := by decide +kernel
theorem dX3_passDay_0 : decode cX3_passDay 0 = .ok (.aload_n 0, 1) := by decide +kernel
theorem dX3_passDay_1 : decode cX3_passDay 1 = .ok (.getfield 12, 3) := by decide +kernel
theorem dX3_passDay_4 : decode cX3_passDay 4 = .ok (.invokevirtual 205, 3) := by decide +kernel
theorem dX3_passDay_7 : decode cX3_passDay 7 = .ok (.invokestatic 68, 3) := by decide +kernel
theorem dX3_passDay_10 : decode cX3_passDay 10 = .ok (.aload_n 0, 1) := by decide +kernel
theorem dX3_passDay_11 : decode cX3_passDay 11 = .ok (.getfield 28, 3) := by decide +kernel
theorem dX3_passDay_14 : decode cX3_passDay 14 = .ok (.aload_n 0, 1) := by decide +kernel
theorem dX3_passDay_15 : decode cX3_passDay 15 = .ok (.getfield 12, 3) := by decide +kernel
theorem dX3_passDay_18 : decode cX3_passDay 18 = .ok (.invokevirtual 71, 3) := by decide +kernel
theorem dX3_passDay_21 : decode cX3_passDay 21 = .ok (.aload_n 0, 1) := by decide +kernel
theorem dX3_passDay_22 : decode cX3_passDay 22 = .ok (.getfield 12, 3) := by decide +kernel
theorem dX3_passDay_25 : decode cX3_passDay 25 = .ok (.invokevirtual 209, 3) := by decide +kernel
theorem dX3_passDay_28 : decode cX3_passDay 28 = .ok (.ireturn, 1) := by decide +kernel
theorem dX3_endSprint_0 : decode cX3_endSprint 0 = .ok (.aload_n 0, 1) := by decide +kernel
theorem dX3_endSprint_1 : decode cX3_endSprint 1 = .ok (.getfield 12, 3) := by decide +kernel
theorem dX3_endSprint_4 : decode cX3_endSprint 4 = .ok (.getfield 155, 3) := by decide +kernel
theorem dX3_endSprint_7 : decode cX3_endSprint 7 = .ok (.invokestatic 68, 3) := by decide +kernel
theorem dX3_endSprint_10 : decode cX3_endSprint 10 = .ok (.aload_n 0, 1) := by decide +kernel
theorem dX3_endSprint_11 : decode cX3_endSprint 11 = .ok (.getfield 28, 3) := by decide +kernel
theorem dX3_endSprint_14 : decode cX3_endSprint 14 = .ok (.aload_n 0, 1) := by decide +kernel
theorem dX3_endSprint_15 : decode cX3_endSprint 15 = .ok (.getfield 12, 3) := by decide +kernel
theorem dX3_endSprint_18 : decode cX3_endSprint 18 = .ok (.invokevirtual 71, 3) := by decide +kernel
theorem dX3_endSprint_21 : decode cX3_endSprint 21 = .ok (.aload_n 0, 1) := by decide +kernel
theorem dX3_endSprint_22 : decode cX3_endSprint 22 = .ok (.getfield 12, 3) := by decide +kernel
theorem dX3_endSprint_25 : decode cX3_endSprint 25 = .ok (.invokevirtual 213, 3) := by decide +kernel
theorem dX3_endSprint_28 : decode cX3_endSprint 28 = .ok (.ireturn, 1) := by decide +kernel
theorem dX3_isActive_0 : decode cX3_isActive 0 = .ok (.aload_n 0, 1) := by decide +kernel
theorem dX3_isActive_1 : decode cX3_isActive 1 = .ok (.getfield 12, 3) := by decide +kernel
theorem dX3_isActive_4 : decode cX3_isActive 4 = .ok (.getfield 155, 3) := by decide +kernel
theorem dX3_isActive_7 : decode cX3_isActive 7 = .ok (.ireturn, 1) := by decide +kernel
theorem dX3_sprintCount_0 : decode cX3_sprintCount 0 = .ok (.aload_n 0, 1) := by decide +kernel
theorem dX3_sprintCount_1 : decode cX3_sprintCount 1 = .ok (.getfield 12, 3) := by decide +kernel
theorem dX3_sprintCount_4 : decode cX3_sprintCount 4 = .ok (.getfield 216, 3) := by decide +kernel
theorem dX3_sprintCount_7 : decode cX3_sprintCount 7 = .ok (.ireturn, 1) := by decide +kernel
theorem dX3_daysPassed_0 : decode cX3_daysPassed 0 = .ok (.aload_n 0, 1) := by decide +kernel
theorem dX3_daysPassed_1 : decode cX3_daysPassed 1 = .ok (.getfield 12, 3) := by decide +kernel
theorem dX3_daysPassed_4 : decode cX3_daysPassed 4 = .ok (.getfield 155, 3) := by decide +kernel
theorem dX3_daysPassed_7 : decode cX3_daysPassed 7 = .ok (.invokestatic 140, 3) := by decide +kernel
theorem dX3_daysPassed_10 : decode cX3_daysPassed 10 = .ok (.aload_n 0, 1) := by decide +kernel
theorem dX3_daysPassed_11 : decode cX3_daysPassed 11 = .ok (.getfield 12, 3) := by decide +kernel
theorem dX3_daysPassed_14 : decode cX3_daysPassed 14 = .ok (.getfield 219, 3) := by decide +kernel
theorem dX3_daysPassed_17 : decode cX3_daysPassed 17 = .ok (.ireturn, 1) := by decide +kernel
theorem dX3_isPlanned_0 : decode cX3_isPlanned 0 = .ok (.aload_n 0, 1) := by decide +kernel
theorem dX3_isPlanned_1 : decode cX3_isPlanned 1 = .ok (.iload_n 1, 1) := by decide +kernel
theorem dX3_isPlanned_2 : decode cX3_isPlanned 2 = .ok (.invokevirtual 79, 3) := by decide +kernel
theorem dX3_isPlanned_5 : decode cX3_isPlanned 5 = .ok (.aload_n 0, 1) := by decide +kernel
theorem dX3_isPlanned_6 : decode cX3_isPlanned 6 = .ok (.getfield 12, 3) := by decide +kernel
theorem dX3_isPlanned_9 : decode cX3_isPlanned 9 = .ok (.iload_n 1, 1) := by decide +kernel
theorem dX3_isPlanned_10 : decode cX3_isPlanned 10 = .ok (.invokevirtual 222, 3) := by decide +kernel
theorem dX3_isPlanned_13 : decode cX3_isPlanned 13 = .ok (.ireturn, 1) := by decide +kernel
theorem dX3_scope_0 : decode cX3_scope 0 = .ok (.aload_n 0, 1) := by decide +kernel
theorem dX3_scope_1 : decode cX3_scope 1 = .ok (.getfield 12, 3) := by decide +kernel
theorem dX3_scope_4 : decode cX3_scope 4 = .ok (.invokevirtual 225, 3) := by decide +kernel
theorem dX3_scope_7 : decode cX3_scope 7 = .ok (.ireturn, 1) := by decide +kernel
theorem dX3_left_0 : decode cX3_left 0 = .ok (.aload_n 0, 1) := by decide +kernel
theorem dX3_left_1 : decode cX3_left 1 = .ok (.getfield 12, 3) := by decide +kernel
theorem dX3_left_4 : decode cX3_left 4 = .ok (.invokevirtual 228, 3) := by decide +kernel
theorem dX3_left_7 : decode cX3_left 7 = .ok (.ireturn, 1) := by decide +kernel
theorem dX3_worked_0 : decode cX3_worked 0 = .ok (.aload_n 0, 1) := by decide +kernel
theorem dX3_worked_1 : decode cX3_worked 1 = .ok (.getfield 12, 3) := by decide +kernel
theorem dX3_worked_4 : decode cX3_worked 4 = .ok (.invokevirtual 231, 3) := by decide +kernel
theorem dX3_worked_7 : decode cX3_worked 7 = .ok (.ireturn, 1) := by decide +kernel
theorem dX3_scopeChange_0 : decode cX3_scopeChange 0 = .ok (.aload_n 0, 1) := by decide +kernel
theorem dX3_scopeChange_1 : decode cX3_scopeChange 1 = .ok (.getfield 12, 3) := by decide +kernel
theorem dX3_scopeChange_4 : decode cX3_scopeChange 4 = .ok (.getfield 155, 3) := by decide +kernel
theorem dX3_scopeChange_7 : decode cX3_scopeChange 7 = .ok (.invokestatic 140, 3) := by decide +kernel
theorem dX3_scopeChange_10 : decode cX3_scopeChange 10 = .ok (.aload_n 0, 1) := by decide +kernel
theorem dX3_scopeChange_11 : decode cX3_scopeChange 11 = .ok (.getfield 12, 3) := by decide +kernel
theorem dX3_scopeChange_14 : decode cX3_scopeChange 14 = .ok (.invokevirtual 225, 3) := by decide +kernel
theorem dX3_scopeChange_17 : decode cX3_scopeChange 17 = .ok (.aload_n 0, 1) := by decide +kernel
theorem dX3_scopeChange_18 : decode cX3_scopeChange 18 = .ok (.getfield 12, 3) := by decide +kernel
theorem dX3_scopeChange_21 : decode cX3_scopeChange 21 = .ok (.getfield 234, 3) := by decide +kernel
theorem dX3_scopeChange_24 : decode cX3_scopeChange 24 = .ok (.isub, 1) := by decide +kernel
theorem dX3_scopeChange_25 : decode cX3_scopeChange 25 = .ok (.ireturn, 1) := by decide +kernel
theorem dX3_burnDown_0 : decode cX3_burnDown 0 = .ok (.aload_n 0, 1) := by decide +kernel
theorem dX3_burnDown_1 : decode cX3_burnDown 1 = .ok (.getfield 12, 3) := by decide +kernel
theorem dX3_burnDown_4 : decode cX3_burnDown 4 = .ok (.iload_n 1, 1) := by decide +kernel
theorem dX3_burnDown_5 : decode cX3_burnDown 5 = .ok (.invokevirtual 237, 3) := by decide +kernel
theorem dX3_burnDown_8 : decode cX3_burnDown 8 = .ok (.invokestatic 140, 3) := by decide +kernel
theorem dX3_burnDown_11 : decode cX3_burnDown 11 = .ok (.aload_n 0, 1) := by decide +kernel
theorem dX3_burnDown_12 : decode cX3_burnDown 12 = .ok (.getfield 12, 3) := by decide +kernel
theorem dX3_burnDown_15 : decode cX3_burnDown 15 = .ok (.getfield 240, 3) := by decide +kernel
theorem dX3_burnDown_18 : decode cX3_burnDown 18 = .ok (.iload_n 1, 1) := by decide +kernel
theorem dX3_burnDown_19 : decode cX3_burnDown 19 = .ok (.iaload, 1) := by decide +kernel
theorem dX3_burnDown_20 : decode cX3_burnDown 20 = .ok (.ireturn, 1) := by decide +kernel
theorem dX3_idealBurnDown_0 : decode cX3_idealBurnDown 0 = .ok (.aload_n 0, 1) := by decide +kernel
theorem dX3_idealBurnDown_1 : decode cX3_idealBurnDown 1 = .ok (.getfield 12, 3) := by decide +kernel
theorem dX3_idealBurnDown_4 : decode cX3_idealBurnDown 4 = .ok (.iload_n 1, 1) := by decide +kernel
theorem dX3_idealBurnDown_5 : decode cX3_idealBurnDown 5 = .ok (.invokevirtual 243, 3) := by decide +kernel
theorem dX3_idealBurnDown_8 : decode cX3_idealBurnDown 8 = .ok (.invokestatic 140, 3) := by decide +kernel
theorem dX3_idealBurnDown_11 : decode cX3_idealBurnDown 11 = .ok (.aload_n 0, 1) := by decide +kernel
theorem dX3_idealBurnDown_12 : decode cX3_idealBurnDown 12 = .ok (.getfield 12, 3) := by decide +kernel
theorem dX3_idealBurnDown_15 : decode cX3_idealBurnDown 15 = .ok (.getfield 240, 3) := by decide +kernel
theorem dX3_idealBurnDown_18 : decode cX3_idealBurnDown 18 = .ok (.iconst 0, 1) := by decide +kernel
theorem dX3_idealBurnDown_19 : decode cX3_idealBurnDown 19 = .ok (.iaload, 1) := by decide +kernel
theorem dX3_idealBurnDown_20 : decode cX3_idealBurnDown 20 = .ok (.i2f, 1) := by decide +kernel
theorem dX3_idealBurnDown_21 : decode cX3_idealBurnDown 21 = .ok (.aload_n 0, 1) := by decide +kernel
theorem dX3_idealBurnDown_22 : decode cX3_idealBurnDown 22 = .ok (.getfield 12, 3) := by decide +kernel
theorem dX3_idealBurnDown_25 : decode cX3_idealBurnDown 25 = .ok (.getfield 246, 3) := by decide +kernel
theorem dX3_idealBurnDown_28 : decode cX3_idealBurnDown 28 = .ok (.iload_n 1, 1) := by decide +kernel
theorem dX3_idealBurnDown_29 : decode cX3_idealBurnDown 29 = .ok (.isub, 1) := by decide +kernel
theorem dX3_idealBurnDown_30 : decode cX3_idealBurnDown 30 = .ok (.i2f, 1) := by decide +kernel
theorem dX3_idealBurnDown_31 : decode cX3_idealBurnDown 31 = .ok (.fmul, 1) := by decide +kernel
theorem dX3_idealBurnDown_32 : decode cX3_idealBurnDown 32 = .ok (.aload_n 0, 1) := by decide +kernel
theorem dX3_idealBurnDown_33 : decode cX3_idealBurnDown 33 = .ok (.getfield 12, 3) := by decide +kernel
theorem dX3_idealBurnDown_36 : decode cX3_idealBurnDown 36 = .ok (.getfield 246, 3) := by decide +kernel
theorem dX3_idealBurnDown_39 : decode cX3_idealBurnDown 39 = .ok (.i2f, 1) := by decide +kernel
theorem dX3_idealBurnDown_40 : decode cX3_idealBurnDown 40 = .ok (.fdiv, 1) := by decide +kernel
theorem dX3_idealBurnDown_41 : decode cX3_idealBurnDown 41 = .ok (.freturn, 1) := by decide +kernel
theorem dX3_velocityOf_0 : decode cX3_velocityOf 0 = .ok (.aload_n 0, 1) := by decide +kernel
theorem dX3_velocityOf_1 : decode cX3_velocityOf 1 = .ok (.getfield 12, 3) := by decide +kernel
theorem dX3_velocityOf_4 : decode cX3_velocityOf 4 = .ok (.iload_n 1, 1) := by decide +kernel
theorem dX3_velocityOf_5 : decode cX3_velocityOf 5 = .ok (.invokevirtual 249, 3) := by decide +kernel
theorem dX3_velocityOf_8 : decode cX3_velocityOf 8 = .ok (.invokestatic 252, 3) := by decide +kernel
theorem dX3_velocityOf_11 : decode cX3_velocityOf 11 = .ok (.aload_n 0, 1) := by decide +kernel
theorem dX3_velocityOf_12 : decode cX3_velocityOf 12 = .ok (.getfield 12, 3) := by decide +kernel
theorem dX3_velocityOf_15 : decode cX3_velocityOf 15 = .ok (.getfield 255, 3) := by decide +kernel
theorem dX3_velocityOf_18 : decode cX3_velocityOf 18 = .ok (.iload_n 1, 1) := by decide +kernel
theorem dX3_velocityOf_19 : decode cX3_velocityOf 19 = .ok (.iaload, 1) := by decide +kernel
theorem dX3_velocityOf_20 : decode cX3_velocityOf 20 = .ok (.ireturn, 1) := by decide +kernel
theorem dX3_meanVelocity_0 : decode cX3_meanVelocity 0 = .ok (.aload_n 0, 1) := by decide +kernel
theorem dX3_meanVelocity_1 : decode cX3_meanVelocity 1 = .ok (.getfield 12, 3) := by decide +kernel
theorem dX3_meanVelocity_4 : decode cX3_meanVelocity 4 = .ok (.getfield 216, 3) := by decide +kernel
theorem dX3_meanVelocity_7 : decode cX3_meanVelocity 7 = .ok (.iconst 1, 1) := by decide +kernel
theorem dX3_meanVelocity_8 : decode cX3_meanVelocity 8 = .ok (.if_icmp .ge 14, 3) := by decide +kernel
theorem dX3_meanVelocity_11 : decode cX3_meanVelocity 11 = .ok (.new 258, 3) := by decide +kernel
theorem dX3_meanVelocity_14 : decode cX3_meanVelocity 14 = .ok (.dup, 1) := by decide +kernel
theorem dX3_meanVelocity_15 : decode cX3_meanVelocity 15 = .ok (.ldc_w 260, 3) := by decide +kernel
theorem dX3_meanVelocity_18 : decode cX3_meanVelocity 18 = .ok (.invokespecial 262, 3) := by decide +kernel
theorem dX3_meanVelocity_21 : decode cX3_meanVelocity 21 = .ok (.athrow, 1) := by decide +kernel
theorem dX3_meanVelocity_22 : decode cX3_meanVelocity 22 = .ok (.aload_n 0, 1) := by decide +kernel
theorem dX3_meanVelocity_23 : decode cX3_meanVelocity 23 = .ok (.getfield 12, 3) := by decide +kernel
theorem dX3_meanVelocity_26 : decode cX3_meanVelocity 26 = .ok (.invokevirtual 265, 3) := by decide +kernel
theorem dX3_meanVelocity_29 : decode cX3_meanVelocity 29 = .ok (.i2d, 1) := by decide +kernel
theorem dX3_meanVelocity_30 : decode cX3_meanVelocity 30 = .ok (.aload_n 0, 1) := by decide +kernel
theorem dX3_meanVelocity_31 : decode cX3_meanVelocity 31 = .ok (.getfield 12, 3) := by decide +kernel
theorem dX3_meanVelocity_34 : decode cX3_meanVelocity 34 = .ok (.getfield 216, 3) := by decide +kernel
theorem dX3_meanVelocity_37 : decode cX3_meanVelocity 37 = .ok (.i2d, 1) := by decide +kernel
theorem dX3_meanVelocity_38 : decode cX3_meanVelocity 38 = .ok (.ddiv, 1) := by decide +kernel
theorem dX3_meanVelocity_39 : decode cX3_meanVelocity 39 = .ok (.dreturn, 1) := by decide +kernel
theorem dX3_finishDay_0 : decode cX3_finishDay 0 = .ok (.aload_n 0, 1) := by decide +kernel
theorem dX3_finishDay_1 : decode cX3_finishDay 1 = .ok (.iload_n 1, 1) := by decide +kernel
theorem dX3_finishDay_2 : decode cX3_finishDay 2 = .ok (.invokevirtual 79, 3) := by decide +kernel
theorem dX3_finishDay_5 : decode cX3_finishDay 5 = .ok (.aload_n 0, 1) := by decide +kernel
theorem dX3_finishDay_6 : decode cX3_finishDay 6 = .ok (.iload_n 1, 1) := by decide +kernel
theorem dX3_finishDay_7 : decode cX3_finishDay 7 = .ok (.invokevirtual 268, 3) := by decide +kernel
theorem dX3_finishDay_10 : decode cX3_finishDay 10 = .ok (.istore_n 2, 1) := by decide +kernel
theorem dX3_finishDay_11 : decode cX3_finishDay 11 = .ok (.iload_n 2, 1) := by decide +kernel
theorem dX3_finishDay_12 : decode cX3_finishDay 12 = .ok (.iconst (-1), 1) := by decide +kernel
theorem dX3_finishDay_13 : decode cX3_finishDay 13 = .ok (.if_icmp .eq 7, 3) := by decide +kernel
theorem dX3_finishDay_16 : decode cX3_finishDay 16 = .ok (.iconst 1, 1) := by decide +kernel
theorem dX3_finishDay_17 : decode cX3_finishDay 17 = .ok (.goto 4, 3) := by decide +kernel
theorem dX3_finishDay_20 : decode cX3_finishDay 20 = .ok (.iconst 0, 1) := by decide +kernel
theorem dX3_finishDay_21 : decode cX3_finishDay 21 = .ok (.invokestatic 140, 3) := by decide +kernel
theorem dX3_finishDay_24 : decode cX3_finishDay 24 = .ok (.iload_n 2, 1) := by decide +kernel
theorem dX3_finishDay_25 : decode cX3_finishDay 25 = .ok (.ireturn, 1) := by decide +kernel
theorem dX3_finishDayByRecursion_0 : decode cX3_finishDayByRecursion 0 = .ok (.aload_n 0, 1) := by decide +kernel
theorem dX3_finishDayByRecursion_1 : decode cX3_finishDayByRecursion 1 = .ok (.iload_n 1, 1) := by decide +kernel
theorem dX3_finishDayByRecursion_2 : decode cX3_finishDayByRecursion 2 = .ok (.invokevirtual 79, 3) := by decide +kernel
theorem dX3_finishDayByRecursion_5 : decode cX3_finishDayByRecursion 5 = .ok (.aload_n 0, 1) := by decide +kernel
theorem dX3_finishDayByRecursion_6 : decode cX3_finishDayByRecursion 6 = .ok (.getfield 12, 3) := by decide +kernel
theorem dX3_finishDayByRecursion_9 : decode cX3_finishDayByRecursion 9 = .ok (.iload_n 1, 1) := by decide +kernel
theorem dX3_finishDayByRecursion_10 : decode cX3_finishDayByRecursion 10 = .ok (.iconst 0, 1) := by decide +kernel
theorem dX3_finishDayByRecursion_11 : decode cX3_finishDayByRecursion 11 = .ok (.invokestatic 271, 3) := by decide +kernel
theorem dX3_finishDayByRecursion_14 : decode cX3_finishDayByRecursion 14 = .ok (.istore_n 2, 1) := by decide +kernel
theorem dX3_finishDayByRecursion_15 : decode cX3_finishDayByRecursion 15 = .ok (.iload_n 2, 1) := by decide +kernel
theorem dX3_finishDayByRecursion_16 : decode cX3_finishDayByRecursion 16 = .ok (.iconst (-1), 1) := by decide +kernel
theorem dX3_finishDayByRecursion_17 : decode cX3_finishDayByRecursion 17 = .ok (.if_icmp .eq 7, 3) := by decide +kernel
theorem dX3_finishDayByRecursion_20 : decode cX3_finishDayByRecursion 20 = .ok (.iconst 1, 1) := by decide +kernel
theorem dX3_finishDayByRecursion_21 : decode cX3_finishDayByRecursion 21 = .ok (.goto 4, 3) := by decide +kernel
theorem dX3_finishDayByRecursion_24 : decode cX3_finishDayByRecursion 24 = .ok (.iconst 0, 1) := by decide +kernel
theorem dX3_finishDayByRecursion_25 : decode cX3_finishDayByRecursion 25 = .ok (.invokestatic 140, 3) := by decide +kernel
theorem dX3_finishDayByRecursion_28 : decode cX3_finishDayByRecursion 28 = .ok (.iload_n 2, 1) := by decide +kernel
theorem dX3_finishDayByRecursion_29 : decode cX3_finishDayByRecursion 29 = .ok (.ireturn, 1) := by decide +kernel
theorem dX3_writeStory_0 : decode cX3_writeStory 0 = .ok (.aload_n 0, 1) := by decide +kernel
theorem dX3_writeStory_1 : decode cX3_writeStory 1 = .ok (.iload_n 1, 1) := by decide +kernel
theorem dX3_writeStory_2 : decode cX3_writeStory 2 = .ok (.invokevirtual 79, 3) := by decide +kernel
theorem dX3_writeStory_5 : decode cX3_writeStory 5 = .ok (.aload_n 0, 1) := by decide +kernel
theorem dX3_writeStory_6 : decode cX3_writeStory 6 = .ok (.getfield 42, 3) := by decide +kernel
theorem dX3_writeStory_9 : decode cX3_writeStory 9 = .ok (.iconst 0, 1) := by decide +kernel
theorem dX3_writeStory_10 : decode cX3_writeStory 10 = .ok (.invokevirtual 275, 3) := by decide +kernel
theorem dX3_writeStory_13 : decode cX3_writeStory 13 = .ok (.aload_n 0, 1) := by decide +kernel
theorem dX3_writeStory_14 : decode cX3_writeStory 14 = .ok (.getfield 42, 3) := by decide +kernel
theorem dX3_writeStory_17 : decode cX3_writeStory 17 = .ok (.iload_n 1, 1) := by decide +kernel
theorem dX3_writeStory_18 : decode cX3_writeStory 18 = .ok (.invokevirtual 278, 3) := by decide +kernel
theorem dX3_writeStory_21 : decode cX3_writeStory 21 = .ok (.bipush 58, 2) := by decide +kernel
theorem dX3_writeStory_23 : decode cX3_writeStory 23 = .ok (.invokevirtual 282, 3) := by decide +kernel
theorem dX3_writeStory_26 : decode cX3_writeStory 26 = .ok (.aload_n 0, 1) := by decide +kernel
theorem dX3_writeStory_27 : decode cX3_writeStory 27 = .ok (.getfield 12, 3) := by decide +kernel
theorem dX3_writeStory_30 : decode cX3_writeStory 30 = .ok (.getfield 118, 3) := by decide +kernel
theorem dX3_writeStory_33 : decode cX3_writeStory 33 = .ok (.iload_n 1, 1) := by decide +kernel
theorem dX3_writeStory_34 : decode cX3_writeStory 34 = .ok (.iaload, 1) := by decide +kernel
theorem dX3_writeStory_35 : decode cX3_writeStory 35 = .ok (.invokevirtual 278, 3) := by decide +kernel
theorem dX3_writeStory_38 : decode cX3_writeStory 38 = .ok (.bipush 47, 2) := by decide +kernel
theorem dX3_writeStory_40 : decode cX3_writeStory 40 = .ok (.invokevirtual 282, 3) := by decide +kernel
theorem dX3_writeStory_43 : decode cX3_writeStory 43 = .ok (.aload_n 0, 1) := by decide +kernel
theorem dX3_writeStory_44 : decode cX3_writeStory 44 = .ok (.getfield 12, 3) := by decide +kernel
theorem dX3_writeStory_47 : decode cX3_writeStory 47 = .ok (.getfield 115, 3) := by decide +kernel
theorem dX3_writeStory_50 : decode cX3_writeStory 50 = .ok (.iload_n 1, 1) := by decide +kernel
theorem dX3_writeStory_51 : decode cX3_writeStory 51 = .ok (.iaload, 1) := by decide +kernel
theorem dX3_writeStory_52 : decode cX3_writeStory 52 = .ok (.invokevirtual 278, 3) := by decide +kernel
theorem dX3_writeStory_55 : decode cX3_writeStory 55 = .ok (.pop, 1) := by decide +kernel
theorem dX3_writeStory_56 : decode cX3_writeStory 56 = .ok (.aload_n 0, 1) := by decide +kernel
theorem dX3_writeStory_57 : decode cX3_writeStory 57 = .ok (.getfield 12, 3) := by decide +kernel
theorem dX3_writeStory_60 : decode cX3_writeStory 60 = .ok (.iload_n 1, 1) := by decide +kernel
theorem dX3_writeStory_61 : decode cX3_writeStory 61 = .ok (.invokevirtual 222, 3) := by decide +kernel
theorem dX3_writeStory_64 : decode cX3_writeStory 64 = .ok (.ifCond .eq 13, 3) := by decide +kernel
theorem dX3_writeStory_67 : decode cX3_writeStory 67 = .ok (.aload_n 0, 1) := by decide +kernel
theorem dX3_writeStory_68 : decode cX3_writeStory 68 = .ok (.getfield 42, 3) := by decide +kernel
theorem dX3_writeStory_71 : decode cX3_writeStory 71 = .ok (.bipush 112, 2) := by decide +kernel
theorem dX3_writeStory_73 : decode cX3_writeStory 73 = .ok (.invokevirtual 282, 3) := by decide +kernel
theorem dX3_writeStory_76 : decode cX3_writeStory 76 = .ok (.pop, 1) := by decide +kernel
theorem dX3_writeStory_77 : decode cX3_writeStory 77 = .ok (.aload_n 0, 1) := by decide +kernel
theorem dX3_writeStory_78 : decode cX3_writeStory 78 = .ok (.getfield 12, 3) := by decide +kernel
theorem dX3_writeStory_81 : decode cX3_writeStory 81 = .ok (.iload_n 1, 1) := by decide +kernel
theorem dX3_writeStory_82 : decode cX3_writeStory 82 = .ok (.invokevirtual 121, 3) := by decide +kernel
theorem dX3_writeStory_85 : decode cX3_writeStory 85 = .ok (.ifCond .le 13, 3) := by decide +kernel
theorem dX3_writeStory_88 : decode cX3_writeStory 88 = .ok (.aload_n 0, 1) := by decide +kernel
theorem dX3_writeStory_89 : decode cX3_writeStory 89 = .ok (.getfield 42, 3) := by decide +kernel
theorem dX3_writeStory_92 : decode cX3_writeStory 92 = .ok (.bipush 98, 2) := by decide +kernel
theorem dX3_writeStory_94 : decode cX3_writeStory 94 = .ok (.invokevirtual 282, 3) := by decide +kernel
theorem dX3_writeStory_97 : decode cX3_writeStory 97 = .ok (.pop, 1) := by decide +kernel
theorem dX3_writeStory_98 : decode cX3_writeStory 98 = .ok (.aload_n 0, 1) := by decide +kernel
theorem dX3_writeStory_99 : decode cX3_writeStory 99 = .ok (.getfield 12, 3) := by decide +kernel
theorem dX3_writeStory_102 : decode cX3_writeStory 102 = .ok (.iload_n 1, 1) := by decide +kernel
theorem dX3_writeStory_103 : decode cX3_writeStory 103 = .ok (.invokevirtual 181, 3) := by decide +kernel
theorem dX3_writeStory_106 : decode cX3_writeStory 106 = .ok (.istore_n 2, 1) := by decide +kernel
theorem dX3_writeStory_107 : decode cX3_writeStory 107 = .ok (.iload_n 2, 1) := by decide +kernel
theorem dX3_writeStory_108 : decode cX3_writeStory 108 = .ok (.iconst (-1), 1) := by decide +kernel
theorem dX3_writeStory_109 : decode cX3_writeStory 109 = .ok (.if_icmp .eq 17, 3) := by decide +kernel
theorem dX3_writeStory_112 : decode cX3_writeStory 112 = .ok (.aload_n 0, 1) := by decide +kernel
theorem dX3_writeStory_113 : decode cX3_writeStory 113 = .ok (.getfield 42, 3) := by decide +kernel
theorem dX3_writeStory_116 : decode cX3_writeStory 116 = .ok (.bipush 64, 2) := by decide +kernel
theorem dX3_writeStory_118 : decode cX3_writeStory 118 = .ok (.invokevirtual 282, 3) := by decide +kernel
theorem dX3_writeStory_121 : decode cX3_writeStory 121 = .ok (.iload_n 2, 1) := by decide +kernel
theorem dX3_writeStory_122 : decode cX3_writeStory 122 = .ok (.invokevirtual 278, 3) := by decide +kernel
theorem dX3_writeStory_125 : decode cX3_writeStory 125 = .ok (.pop, 1) := by decide +kernel
theorem dX3_writeStory_126 : decode cX3_writeStory 126 = .ok (.aload_n 0, 1) := by decide +kernel
theorem dX3_writeStory_127 : decode cX3_writeStory 127 = .ok (.getfield 42, 3) := by decide +kernel
theorem dX3_writeStory_130 : decode cX3_writeStory 130 = .ok (.invokevirtual 285, 3) := by decide +kernel
theorem dX3_writeStory_133 : decode cX3_writeStory 133 = .ok (.ireturn, 1) := by decide +kernel
theorem dX3_writeBurnDown_0 : decode cX3_writeBurnDown 0 = .ok (.aload_n 0, 1) := by decide +kernel
theorem dX3_writeBurnDown_1 : decode cX3_writeBurnDown 1 = .ok (.getfield 42, 3) := by decide +kernel
theorem dX3_writeBurnDown_4 : decode cX3_writeBurnDown 4 = .ok (.iconst 0, 1) := by decide +kernel
theorem dX3_writeBurnDown_5 : decode cX3_writeBurnDown 5 = .ok (.invokevirtual 275, 3) := by decide +kernel
theorem dX3_writeBurnDown_8 : decode cX3_writeBurnDown 8 = .ok (.iconst 0, 1) := by decide +kernel
theorem dX3_writeBurnDown_9 : decode cX3_writeBurnDown 9 = .ok (.istore_n 1, 1) := by decide +kernel
theorem dX3_writeBurnDown_10 : decode cX3_writeBurnDown 10 = .ok (.iload_n 1, 1) := by decide +kernel
theorem dX3_writeBurnDown_11 : decode cX3_writeBurnDown 11 = .ok (.aload_n 0, 1) := by decide +kernel
theorem dX3_writeBurnDown_12 : decode cX3_writeBurnDown 12 = .ok (.getfield 12, 3) := by decide +kernel
theorem dX3_writeBurnDown_15 : decode cX3_writeBurnDown 15 = .ok (.getfield 240, 3) := by decide +kernel
theorem dX3_writeBurnDown_18 : decode cX3_writeBurnDown 18 = .ok (.arraylength, 1) := by decide +kernel
theorem dX3_writeBurnDown_19 : decode cX3_writeBurnDown 19 = .ok (.if_icmp .ge 51, 3) := by decide +kernel
theorem dX3_writeBurnDown_22 : decode cX3_writeBurnDown 22 = .ok (.aload_n 0, 1) := by decide +kernel
theorem dX3_writeBurnDown_23 : decode cX3_writeBurnDown 23 = .ok (.getfield 12, 3) := by decide +kernel
theorem dX3_writeBurnDown_26 : decode cX3_writeBurnDown 26 = .ok (.iload_n 1, 1) := by decide +kernel
theorem dX3_writeBurnDown_27 : decode cX3_writeBurnDown 27 = .ok (.invokevirtual 237, 3) := by decide +kernel
theorem dX3_writeBurnDown_30 : decode cX3_writeBurnDown 30 = .ok (.ifCond .eq 40, 3) := by decide +kernel
theorem dX3_writeBurnDown_33 : decode cX3_writeBurnDown 33 = .ok (.iload_n 1, 1) := by decide +kernel
theorem dX3_writeBurnDown_34 : decode cX3_writeBurnDown 34 = .ok (.ifCond .le 13, 3) := by decide +kernel
theorem dX3_writeBurnDown_37 : decode cX3_writeBurnDown 37 = .ok (.aload_n 0, 1) := by decide +kernel
theorem dX3_writeBurnDown_38 : decode cX3_writeBurnDown 38 = .ok (.getfield 42, 3) := by decide +kernel
theorem dX3_writeBurnDown_41 : decode cX3_writeBurnDown 41 = .ok (.bipush 32, 2) := by decide +kernel
theorem dX3_writeBurnDown_43 : decode cX3_writeBurnDown 43 = .ok (.invokevirtual 282, 3) := by decide +kernel
theorem dX3_writeBurnDown_46 : decode cX3_writeBurnDown 46 = .ok (.pop, 1) := by decide +kernel
theorem dX3_writeBurnDown_47 : decode cX3_writeBurnDown 47 = .ok (.aload_n 0, 1) := by decide +kernel
theorem dX3_writeBurnDown_48 : decode cX3_writeBurnDown 48 = .ok (.getfield 42, 3) := by decide +kernel
theorem dX3_writeBurnDown_51 : decode cX3_writeBurnDown 51 = .ok (.aload_n 0, 1) := by decide +kernel
theorem dX3_writeBurnDown_52 : decode cX3_writeBurnDown 52 = .ok (.getfield 12, 3) := by decide +kernel
theorem dX3_writeBurnDown_55 : decode cX3_writeBurnDown 55 = .ok (.getfield 240, 3) := by decide +kernel
theorem dX3_writeBurnDown_58 : decode cX3_writeBurnDown 58 = .ok (.iload_n 1, 1) := by decide +kernel
theorem dX3_writeBurnDown_59 : decode cX3_writeBurnDown 59 = .ok (.iaload, 1) := by decide +kernel
theorem dX3_writeBurnDown_60 : decode cX3_writeBurnDown 60 = .ok (.invokevirtual 278, 3) := by decide +kernel
theorem dX3_writeBurnDown_63 : decode cX3_writeBurnDown 63 = .ok (.pop, 1) := by decide +kernel
theorem dX3_writeBurnDown_64 : decode cX3_writeBurnDown 64 = .ok (.iinc 1 1, 3) := by decide +kernel
theorem dX3_writeBurnDown_67 : decode cX3_writeBurnDown 67 = .ok (.goto (-57), 3) := by decide +kernel
theorem dX3_writeBurnDown_70 : decode cX3_writeBurnDown 70 = .ok (.aload_n 0, 1) := by decide +kernel
theorem dX3_writeBurnDown_71 : decode cX3_writeBurnDown 71 = .ok (.getfield 42, 3) := by decide +kernel
theorem dX3_writeBurnDown_74 : decode cX3_writeBurnDown 74 = .ok (.invokevirtual 285, 3) := by decide +kernel
theorem dX3_writeBurnDown_77 : decode cX3_writeBurnDown 77 = .ok (.ireturn, 1) := by decide +kernel
theorem dX3_lineAt_0 : decode cX3_lineAt 0 = .ok (.iload_n 1, 1) := by decide +kernel
theorem dX3_lineAt_1 : decode cX3_lineAt 1 = .ok (.ifCond .lt 18, 3) := by decide +kernel
theorem dX3_lineAt_4 : decode cX3_lineAt 4 = .ok (.iload_n 1, 1) := by decide +kernel
theorem dX3_lineAt_5 : decode cX3_lineAt 5 = .ok (.aload_n 0, 1) := by decide +kernel
theorem dX3_lineAt_6 : decode cX3_lineAt 6 = .ok (.getfield 42, 3) := by decide +kernel
theorem dX3_lineAt_9 : decode cX3_lineAt 9 = .ok (.invokevirtual 285, 3) := by decide +kernel
theorem dX3_lineAt_12 : decode cX3_lineAt 12 = .ok (.if_icmp .ge 7, 3) := by decide +kernel
theorem dX3_lineAt_15 : decode cX3_lineAt 15 = .ok (.iconst 1, 1) := by decide +kernel
theorem dX3_lineAt_16 : decode cX3_lineAt 16 = .ok (.goto 4, 3) := by decide +kernel
theorem dX3_lineAt_19 : decode cX3_lineAt 19 = .ok (.iconst 0, 1) := by decide +kernel
theorem dX3_lineAt_20 : decode cX3_lineAt 20 = .ok (.invokestatic 252, 3) := by decide +kernel
theorem dX3_lineAt_23 : decode cX3_lineAt 23 = .ok (.aload_n 0, 1) := by decide +kernel
theorem dX3_lineAt_24 : decode cX3_lineAt 24 = .ok (.getfield 42, 3) := by decide +kernel
theorem dX3_lineAt_27 : decode cX3_lineAt 27 = .ok (.iload_n 1, 1) := by decide +kernel
theorem dX3_lineAt_28 : decode cX3_lineAt 28 = .ok (.invokevirtual 288, 3) := by decide +kernel
theorem dX3_lineAt_31 : decode cX3_lineAt 31 = .ok (.ireturn, 1) := by decide +kernel
theorem dX3_isConsistent_0 : decode cX3_isConsistent 0 = .ok (.aload_n 0, 1) := by decide +kernel
theorem dX3_isConsistent_1 : decode cX3_isConsistent 1 = .ok (.getfield 12, 3) := by decide +kernel
theorem dX3_isConsistent_4 : decode cX3_isConsistent 4 = .ok (.invokevirtual 231, 3) := by decide +kernel
theorem dX3_isConsistent_7 : decode cX3_isConsistent 7 = .ok (.aload_n 0, 1) := by decide +kernel
theorem dX3_isConsistent_8 : decode cX3_isConsistent 8 = .ok (.getfield 12, 3) := by decide +kernel
theorem dX3_isConsistent_11 : decode cX3_isConsistent 11 = .ok (.invokevirtual 228, 3) := by decide +kernel
theorem dX3_isConsistent_14 : decode cX3_isConsistent 14 = .ok (.iadd, 1) := by decide +kernel
theorem dX3_isConsistent_15 : decode cX3_isConsistent 15 = .ok (.aload_n 0, 1) := by decide +kernel
theorem dX3_isConsistent_16 : decode cX3_isConsistent 16 = .ok (.getfield 12, 3) := by decide +kernel
theorem dX3_isConsistent_19 : decode cX3_isConsistent 19 = .ok (.invokevirtual 225, 3) := by decide +kernel
theorem dX3_isConsistent_22 : decode cX3_isConsistent 22 = .ok (.if_icmp .eq 5, 3) := by decide +kernel
theorem dX3_isConsistent_25 : decode cX3_isConsistent 25 = .ok (.iconst 0, 1) := by decide +kernel
theorem dX3_isConsistent_26 : decode cX3_isConsistent 26 = .ok (.ireturn, 1) := by decide +kernel
theorem dX3_isConsistent_27 : decode cX3_isConsistent 27 = .ok (.aload_n 0, 1) := by decide +kernel
theorem dX3_isConsistent_28 : decode cX3_isConsistent 28 = .ok (.getfield 12, 3) := by decide +kernel
theorem dX3_isConsistent_31 : decode cX3_isConsistent 31 = .ok (.aload_n 0, 1) := by decide +kernel
theorem dX3_isConsistent_32 : decode cX3_isConsistent 32 = .ok (.getfield 46, 3) := by decide +kernel
theorem dX3_isConsistent_35 : decode cX3_isConsistent 35 = .ok (.invokevirtual 127, 3) := by decide +kernel
theorem dX3_isConsistent_38 : decode cX3_isConsistent 38 = .ok (.iconst 0, 1) := by decide +kernel
theorem dX3_isConsistent_39 : decode cX3_isConsistent 39 = .ok (.istore_n 1, 1) := by decide +kernel
theorem dX3_isConsistent_40 : decode cX3_isConsistent 40 = .ok (.iload_n 1, 1) := by decide +kernel
theorem dX3_isConsistent_41 : decode cX3_isConsistent 41 = .ok (.aload_n 0, 1) := by decide +kernel
theorem dX3_isConsistent_42 : decode cX3_isConsistent 42 = .ok (.getfield 46, 3) := by decide +kernel
theorem dX3_isConsistent_45 : decode cX3_isConsistent 45 = .ok (.arraylength, 1) := by decide +kernel
theorem dX3_isConsistent_46 : decode cX3_isConsistent 46 = .ok (.if_icmp .ge 53, 3) := by decide +kernel
theorem dX3_isConsistent_49 : decode cX3_isConsistent 49 = .ok (.aload_n 0, 1) := by decide +kernel
theorem dX3_isConsistent_50 : decode cX3_isConsistent 50 = .ok (.getfield 12, 3) := by decide +kernel
theorem dX3_isConsistent_53 : decode cX3_isConsistent 53 = .ok (.iload_n 1, 1) := by decide +kernel
theorem dX3_isConsistent_54 : decode cX3_isConsistent 54 = .ok (.invokevirtual 292, 3) := by decide +kernel
theorem dX3_isConsistent_57 : decode cX3_isConsistent 57 = .ok (.ifCond .eq 42, 3) := by decide +kernel
theorem dX3_isConsistent_60 : decode cX3_isConsistent 60 = .ok (.aload_n 0, 1) := by decide +kernel
theorem dX3_isConsistent_61 : decode cX3_isConsistent 61 = .ok (.iload_n 1, 1) := by decide +kernel
theorem dX3_isConsistent_62 : decode cX3_isConsistent 62 = .ok (.aload_n 0, 1) := by decide +kernel
theorem dX3_isConsistent_63 : decode cX3_isConsistent 63 = .ok (.getfield 46, 3) := by decide +kernel
theorem dX3_isConsistent_66 : decode cX3_isConsistent 66 = .ok (.iload_n 1, 1) := by decide +kernel
theorem dX3_isConsistent_67 : decode cX3_isConsistent 67 = .ok (.iaload, 1) := by decide +kernel
theorem dX3_isConsistent_68 : decode cX3_isConsistent 68 = .ok (.invokevirtual 295, 3) := by decide +kernel
theorem dX3_isConsistent_71 : decode cX3_isConsistent 71 = .ok (.ifCond .eq 20, 3) := by decide +kernel
theorem dX3_isConsistent_74 : decode cX3_isConsistent 74 = .ok (.aload_n 0, 1) := by decide +kernel
theorem dX3_isConsistent_75 : decode cX3_isConsistent 75 = .ok (.iload_n 1, 1) := by decide +kernel
theorem dX3_isConsistent_76 : decode cX3_isConsistent 76 = .ok (.invokevirtual 268, 3) := by decide +kernel
theorem dX3_isConsistent_79 : decode cX3_isConsistent 79 = .ok (.aload_n 0, 1) := by decide +kernel
theorem dX3_isConsistent_80 : decode cX3_isConsistent 80 = .ok (.getfield 12, 3) := by decide +kernel
theorem dX3_isConsistent_83 : decode cX3_isConsistent 83 = .ok (.iload_n 1, 1) := by decide +kernel
theorem dX3_isConsistent_84 : decode cX3_isConsistent 84 = .ok (.iconst 0, 1) := by decide +kernel
theorem dX3_isConsistent_85 : decode cX3_isConsistent 85 = .ok (.invokestatic 271, 3) := by decide +kernel
theorem dX3_isConsistent_88 : decode cX3_isConsistent 88 = .ok (.if_icmp .eq 5, 3) := by decide +kernel
theorem dX3_isConsistent_91 : decode cX3_isConsistent 91 = .ok (.iconst 0, 1) := by decide +kernel
theorem dX3_isConsistent_92 : decode cX3_isConsistent 92 = .ok (.ireturn, 1) := by decide +kernel
theorem dX3_isConsistent_93 : decode cX3_isConsistent 93 = .ok (.iinc 1 1, 3) := by decide +kernel
theorem dX3_isConsistent_96 : decode cX3_isConsistent 96 = .ok (.goto (-56), 3) := by decide +kernel
theorem dX3_isConsistent_99 : decode cX3_isConsistent 99 = .ok (.iconst 1, 1) := by decide +kernel
theorem dX3_isConsistent_100 : decode cX3_isConsistent 100 = .ok (.ireturn, 1) := by decide +kernel
theorem dX3_type_0 : decode cX3_type 0 = .ok (.iload_n 1, 1) := by decide +kernel
theorem dX3_type_1 : decode cX3_type 1 = .ok (.bipush 32, 2) := by decide +kernel
theorem dX3_type_3 : decode cX3_type 3 = .ok (.if_icmp .lt 13, 3) := by decide +kernel
theorem dX3_type_6 : decode cX3_type 6 = .ok (.iload_n 1, 1) := by decide +kernel
theorem dX3_type_7 : decode cX3_type 7 = .ok (.bipush 126, 2) := by decide +kernel
theorem dX3_type_9 : decode cX3_type 9 = .ok (.if_icmp .gt 7, 3) := by decide +kernel
theorem dX3_type_12 : decode cX3_type 12 = .ok (.iconst 1, 1) := by decide +kernel
theorem dX3_type_13 : decode cX3_type 13 = .ok (.goto 4, 3) := by decide +kernel
theorem dX3_type_16 : decode cX3_type 16 = .ok (.iconst 0, 1) := by decide +kernel
theorem dX3_type_17 : decode cX3_type 17 = .ok (.invokestatic 61, 3) := by decide +kernel
theorem dX3_type_20 : decode cX3_type 20 = .ok (.aload_n 0, 1) := by decide +kernel
theorem dX3_type_21 : decode cX3_type 21 = .ok (.getfield 35, 3) := by decide +kernel
theorem dX3_type_24 : decode cX3_type 24 = .ok (.invokevirtual 298, 3) := by decide +kernel
theorem dX3_type_27 : decode cX3_type 27 = .ok (.invokestatic 68, 3) := by decide +kernel
theorem dX3_type_30 : decode cX3_type 30 = .ok (.aload_n 0, 1) := by decide +kernel
theorem dX3_type_31 : decode cX3_type 31 = .ok (.getfield 35, 3) := by decide +kernel
theorem dX3_type_34 : decode cX3_type 34 = .ok (.iload_n 1, 1) := by decide +kernel
theorem dX3_type_35 : decode cX3_type 35 = .ok (.invokevirtual 301, 3) := by decide +kernel
theorem dX3_type_38 : decode cX3_type 38 = .ok (.ireturn, 1) := by decide +kernel
theorem dX3_execute_0 : decode cX3_execute 0 = .ok (.aload_n 0, 1) := by decide +kernel
theorem dX3_execute_1 : decode cX3_execute 1 = .ok (.getfield 35, 3) := by decide +kernel
theorem dX3_execute_4 : decode cX3_execute 4 = .ok (.invokevirtual 304, 3) := by decide +kernel
theorem dX3_execute_7 : decode cX3_execute 7 = .ok (.istore_n 1, 1) := by decide +kernel
theorem dX3_execute_8 : decode cX3_execute 8 = .ok (.iload_n 1, 1) := by decide +kernel
theorem dX3_execute_9 : decode cX3_execute 9 = .ok (.iconst (-1), 1) := by decide +kernel
theorem dX3_execute_10 : decode cX3_execute 10 = .ok (.if_icmp .eq 19, 3) := by decide +kernel
theorem dX3_execute_13 : decode cX3_execute 13 = .ok (.aload_n 0, 1) := by decide +kernel
theorem dX3_execute_14 : decode cX3_execute 14 = .ok (.iload_n 1, 1) := by decide +kernel
theorem dX3_execute_15 : decode cX3_execute 15 = .ok (.putfield 50, 3) := by decide +kernel
theorem dX3_execute_18 : decode cX3_execute 18 = .ok (.new 307, 3) := by decide +kernel
theorem dX3_execute_21 : decode cX3_execute 21 = .ok (.dup, 1) := by decide +kernel
theorem dX3_execute_22 : decode cX3_execute 22 = .ok (.ldc_w 309, 3) := by decide +kernel
theorem dX3_execute_25 : decode cX3_execute 25 = .ok (.invokespecial 311, 3) := by decide +kernel
theorem dX3_execute_28 : decode cX3_execute 28 = .ok (.athrow, 1) := by decide +kernel
theorem dX3_execute_29 : decode cX3_execute 29 = .ok (.aload_n 0, 1) := by decide +kernel
theorem dX3_execute_30 : decode cX3_execute 30 = .ok (.getfield 19, 3) := by decide +kernel
theorem dX3_execute_33 : decode cX3_execute 33 = .ok (.aload_n 0, 1) := by decide +kernel
theorem dX3_execute_34 : decode cX3_execute 34 = .ok (.getfield 12, 3) := by decide +kernel
theorem dX3_execute_37 : decode cX3_execute 37 = .ok (.invokevirtual 312, 3) := by decide +kernel
theorem dX3_execute_40 : decode cX3_execute 40 = .ok (.aload_n 0, 1) := by decide +kernel
theorem dX3_execute_41 : decode cX3_execute 41 = .ok (.invokevirtual 315, 3) := by decide +kernel
theorem dX3_execute_44 : decode cX3_execute 44 = .ok (.istore_n 2, 1) := by decide +kernel
theorem dX3_execute_45 : decode cX3_execute 45 = .ok (.iload_n 2, 1) := by decide +kernel
theorem dX3_execute_46 : decode cX3_execute 46 = .ok (.iconst (-1), 1) := by decide +kernel
theorem dX3_execute_47 : decode cX3_execute 47 = .ok (.if_icmp .eq 30, 3) := by decide +kernel
theorem dX3_execute_50 : decode cX3_execute 50 = .ok (.aload_n 0, 1) := by decide +kernel
theorem dX3_execute_51 : decode cX3_execute 51 = .ok (.getfield 12, 3) := by decide +kernel
theorem dX3_execute_54 : decode cX3_execute 54 = .ok (.aload_n 0, 1) := by decide +kernel
theorem dX3_execute_55 : decode cX3_execute 55 = .ok (.getfield 19, 3) := by decide +kernel
theorem dX3_execute_58 : decode cX3_execute 58 = .ok (.invokevirtual 312, 3) := by decide +kernel
theorem dX3_execute_61 : decode cX3_execute 61 = .ok (.aload_n 0, 1) := by decide +kernel
theorem dX3_execute_62 : decode cX3_execute 62 = .ok (.iload_n 2, 1) := by decide +kernel
theorem dX3_execute_63 : decode cX3_execute 63 = .ok (.putfield 54, 3) := by decide +kernel
theorem dX3_execute_66 : decode cX3_execute 66 = .ok (.new 318, 3) := by decide +kernel
theorem dX3_execute_69 : decode cX3_execute 69 = .ok (.dup, 1) := by decide +kernel
theorem dX3_execute_70 : decode cX3_execute 70 = .ok (.ldc_w 320, 3) := by decide +kernel
theorem dX3_execute_73 : decode cX3_execute 73 = .ok (.invokespecial 322, 3) := by decide +kernel
theorem dX3_execute_76 : decode cX3_execute 76 = .ok (.athrow, 1) := by decide +kernel
theorem dX3_execute_77 : decode cX3_execute 77 = .ok (.aload_n 0, 1) := by decide +kernel
theorem dX3_execute_78 : decode cX3_execute 78 = .ok (.getfield 28, 3) := by decide +kernel
theorem dX3_execute_81 : decode cX3_execute 81 = .ok (.aload_n 0, 1) := by decide +kernel
theorem dX3_execute_82 : decode cX3_execute 82 = .ok (.getfield 19, 3) := by decide +kernel
theorem dX3_execute_85 : decode cX3_execute 85 = .ok (.invokevirtual 71, 3) := by decide +kernel
theorem dX3_execute_88 : decode cX3_execute 88 = .ok (.aload_n 0, 1) := by decide +kernel
theorem dX3_execute_89 : decode cX3_execute 89 = .ok (.getfield 35, 3) := by decide +kernel
theorem dX3_execute_92 : decode cX3_execute 92 = .ok (.getfield 323, 3) := by decide +kernel
theorem dX3_execute_95 : decode cX3_execute 95 = .ok (.ireturn, 1) := by decide +kernel
theorem dX3_errorPosition_0 : decode cX3_errorPosition 0 = .ok (.aload_n 0, 1) := by decide +kernel
theorem dX3_errorPosition_1 : decode cX3_errorPosition 1 = .ok (.getfield 50, 3) := by decide +kernel
theorem dX3_errorPosition_4 : decode cX3_errorPosition 4 = .ok (.iconst (-1), 1) := by decide +kernel
theorem dX3_errorPosition_5 : decode cX3_errorPosition 5 = .ok (.if_icmp .eq 7, 3) := by decide +kernel
theorem dX3_errorPosition_8 : decode cX3_errorPosition 8 = .ok (.iconst 1, 1) := by decide +kernel
theorem dX3_errorPosition_9 : decode cX3_errorPosition 9 = .ok (.goto 4, 3) := by decide +kernel
theorem dX3_errorPosition_12 : decode cX3_errorPosition 12 = .ok (.iconst 0, 1) := by decide +kernel
theorem dX3_errorPosition_13 : decode cX3_errorPosition 13 = .ok (.invokestatic 140, 3) := by decide +kernel
theorem dX3_errorPosition_16 : decode cX3_errorPosition 16 = .ok (.aload_n 0, 1) := by decide +kernel
theorem dX3_errorPosition_17 : decode cX3_errorPosition 17 = .ok (.getfield 50, 3) := by decide +kernel
theorem dX3_errorPosition_20 : decode cX3_errorPosition 20 = .ok (.ireturn, 1) := by decide +kernel
theorem dX3_failedCommand_0 : decode cX3_failedCommand 0 = .ok (.aload_n 0, 1) := by decide +kernel
theorem dX3_failedCommand_1 : decode cX3_failedCommand 1 = .ok (.getfield 54, 3) := by decide +kernel
theorem dX3_failedCommand_4 : decode cX3_failedCommand 4 = .ok (.iconst (-1), 1) := by decide +kernel
theorem dX3_failedCommand_5 : decode cX3_failedCommand 5 = .ok (.if_icmp .eq 7, 3) := by decide +kernel
theorem dX3_failedCommand_8 : decode cX3_failedCommand 8 = .ok (.iconst 1, 1) := by decide +kernel
theorem dX3_failedCommand_9 : decode cX3_failedCommand 9 = .ok (.goto 4, 3) := by decide +kernel
theorem dX3_failedCommand_12 : decode cX3_failedCommand 12 = .ok (.iconst 0, 1) := by decide +kernel
theorem dX3_failedCommand_13 : decode cX3_failedCommand 13 = .ok (.invokestatic 140, 3) := by decide +kernel
theorem dX3_failedCommand_16 : decode cX3_failedCommand 16 = .ok (.aload_n 0, 1) := by decide +kernel
theorem dX3_failedCommand_17 : decode cX3_failedCommand 17 = .ok (.getfield 54, 3) := by decide +kernel
theorem dX3_failedCommand_20 : decode cX3_failedCommand 20 = .ok (.ireturn, 1) := by decide +kernel
theorem dX3_undo_0 : decode cX3_undo 0 = .ok (.aload_n 0, 1) := by decide +kernel
theorem dX3_undo_1 : decode cX3_undo 1 = .ok (.getfield 28, 3) := by decide +kernel
theorem dX3_undo_4 : decode cX3_undo 4 = .ok (.getfield 326, 3) := by decide +kernel
theorem dX3_undo_7 : decode cX3_undo 7 = .ok (.ifCond .le 7, 3) := by decide +kernel
theorem dX3_undo_10 : decode cX3_undo 10 = .ok (.iconst 1, 1) := by decide +kernel
theorem dX3_undo_11 : decode cX3_undo 11 = .ok (.goto 4, 3) := by decide +kernel
theorem dX3_undo_14 : decode cX3_undo 14 = .ok (.iconst 0, 1) := by decide +kernel
theorem dX3_undo_15 : decode cX3_undo 15 = .ok (.invokestatic 68, 3) := by decide +kernel
theorem dX3_undo_18 : decode cX3_undo 18 = .ok (.aload_n 0, 1) := by decide +kernel
theorem dX3_undo_19 : decode cX3_undo 19 = .ok (.getfield 28, 3) := by decide +kernel
theorem dX3_undo_22 : decode cX3_undo 22 = .ok (.aload_n 0, 1) := by decide +kernel
theorem dX3_undo_23 : decode cX3_undo 23 = .ok (.getfield 12, 3) := by decide +kernel
theorem dX3_undo_26 : decode cX3_undo 26 = .ok (.invokevirtual 329, 3) := by decide +kernel
theorem dX3_undo_29 : decode cX3_undo 29 = .ok (.aload_n 0, 1) := by decide +kernel
theorem dX3_undo_30 : decode cX3_undo 30 = .ok (.getfield 28, 3) := by decide +kernel
theorem dX3_undo_33 : decode cX3_undo 33 = .ok (.getfield 326, 3) := by decide +kernel
theorem dX3_undo_36 : decode cX3_undo 36 = .ok (.ireturn, 1) := by decide +kernel
theorem dX3_save_0 : decode cX3_save 0 = .ok (.aload_n 0, 1) := by decide +kernel
theorem dX3_save_1 : decode cX3_save 1 = .ok (.getfield 22, 3) := by decide +kernel
theorem dX3_save_4 : decode cX3_save 4 = .ok (.aload_n 0, 1) := by decide +kernel
theorem dX3_save_5 : decode cX3_save 5 = .ok (.getfield 12, 3) := by decide +kernel
theorem dX3_save_8 : decode cX3_save 8 = .ok (.invokevirtual 312, 3) := by decide +kernel
theorem dX3_save_11 : decode cX3_save 11 = .ok (.aload_n 0, 1) := by decide +kernel
theorem dX3_save_12 : decode cX3_save 12 = .ok (.iconst 1, 1) := by decide +kernel
theorem dX3_save_13 : decode cX3_save 13 = .ok (.putfield 332, 3) := by decide +kernel
theorem dX3_save_16 : decode cX3_save 16 = .ok (.aload_n 0, 1) := by decide +kernel
theorem dX3_save_17 : decode cX3_save 17 = .ok (.getfield 12, 3) := by decide +kernel
theorem dX3_save_20 : decode cX3_save 20 = .ok (.getfield 112, 3) := by decide +kernel
theorem dX3_save_23 : decode cX3_save 23 = .ok (.ireturn, 1) := by decide +kernel
theorem dX3_restore_0 : decode cX3_restore 0 = .ok (.aload_n 0, 1) := by decide +kernel
theorem dX3_restore_1 : decode cX3_restore 1 = .ok (.getfield 332, 3) := by decide +kernel
theorem dX3_restore_4 : decode cX3_restore 4 = .ok (.invokestatic 68, 3) := by decide +kernel
theorem dX3_restore_7 : decode cX3_restore 7 = .ok (.aload_n 0, 1) := by decide +kernel
theorem dX3_restore_8 : decode cX3_restore 8 = .ok (.getfield 12, 3) := by decide +kernel
theorem dX3_restore_11 : decode cX3_restore 11 = .ok (.aload_n 0, 1) := by decide +kernel
theorem dX3_restore_12 : decode cX3_restore 12 = .ok (.getfield 22, 3) := by decide +kernel
theorem dX3_restore_15 : decode cX3_restore 15 = .ok (.invokevirtual 312, 3) := by decide +kernel
theorem dX3_restore_18 : decode cX3_restore 18 = .ok (.aload_n 0, 1) := by decide +kernel
theorem dX3_restore_19 : decode cX3_restore 19 = .ok (.getfield 28, 3) := by decide +kernel
theorem dX3_restore_22 : decode cX3_restore 22 = .ok (.invokevirtual 335, 3) := by decide +kernel
theorem dX3_restore_25 : decode cX3_restore 25 = .ok (.aload_n 0, 1) := by decide +kernel
theorem dX3_restore_26 : decode cX3_restore 26 = .ok (.getfield 12, 3) := by decide +kernel
theorem dX3_restore_29 : decode cX3_restore 29 = .ok (.getfield 112, 3) := by decide +kernel
theorem dX3_restore_32 : decode cX3_restore 32 = .ok (.ireturn, 1) := by decide +kernel
theorem dX3_requireStory_0 : decode cX3_requireStory 0 = .ok (.aload_n 0, 1) := by decide +kernel
theorem dX3_requireStory_1 : decode cX3_requireStory 1 = .ok (.getfield 12, 3) := by decide +kernel
theorem dX3_requireStory_4 : decode cX3_requireStory 4 = .ok (.iload_n 1, 1) := by decide +kernel
theorem dX3_requireStory_5 : decode cX3_requireStory 5 = .ok (.invokevirtual 292, 3) := by decide +kernel
theorem dX3_requireStory_8 : decode cX3_requireStory 8 = .ok (.invokestatic 252, 3) := by decide +kernel
theorem dX3_requireStory_11 : decode cX3_requireStory 11 = .ok (.return_, 1) := by decide +kernel
theorem dX3_requireDeveloper_0 : decode cX3_requireDeveloper 0 = .ok (.aload_n 0, 1) := by decide +kernel
theorem dX3_requireDeveloper_1 : decode cX3_requireDeveloper 1 = .ok (.getfield 12, 3) := by decide +kernel
theorem dX3_requireDeveloper_4 : decode cX3_requireDeveloper 4 = .ok (.iload_n 1, 1) := by decide +kernel
theorem dX3_requireDeveloper_5 : decode cX3_requireDeveloper 5 = .ok (.invokevirtual 338, 3) := by decide +kernel
theorem dX3_requireDeveloper_8 : decode cX3_requireDeveloper 8 = .ok (.invokestatic 252, 3) := by decide +kernel
theorem dX3_requireDeveloper_11 : decode cX3_requireDeveloper 11 = .ok (.return_, 1) := by decide +kernel
theorem dX3_requireIndex_0 : decode cX3_requireIndex 0 = .ok (.iload_n 0, 1) := by decide +kernel
theorem dX3_requireIndex_1 : decode cX3_requireIndex 1 = .ok (.ifCond .ne 14, 3) := by decide +kernel
theorem dX3_requireIndex_4 : decode cX3_requireIndex 4 = .ok (.new 341, 3) := by decide +kernel
theorem dX3_requireIndex_7 : decode cX3_requireIndex 7 = .ok (.dup, 1) := by decide +kernel
theorem dX3_requireIndex_8 : decode cX3_requireIndex 8 = .ok (.ldc_w 343, 3) := by decide +kernel
theorem dX3_requireIndex_11 : decode cX3_requireIndex 11 = .ok (.invokespecial 345, 3) := by decide +kernel
theorem dX3_requireIndex_14 : decode cX3_requireIndex 14 = .ok (.athrow, 1) := by decide +kernel
theorem dX3_requireIndex_15 : decode cX3_requireIndex 15 = .ok (.return_, 1) := by decide +kernel
theorem dX3_requireArgument_0 : decode cX3_requireArgument 0 = .ok (.iload_n 0, 1) := by decide +kernel
theorem dX3_requireArgument_1 : decode cX3_requireArgument 1 = .ok (.ifCond .ne 14, 3) := by decide +kernel
theorem dX3_requireArgument_4 : decode cX3_requireArgument 4 = .ok (.new 307, 3) := by decide +kernel
theorem dX3_requireArgument_7 : decode cX3_requireArgument 7 = .ok (.dup, 1) := by decide +kernel
theorem dX3_requireArgument_8 : decode cX3_requireArgument 8 = .ok (.ldc_w 346, 3) := by decide +kernel
theorem dX3_requireArgument_11 : decode cX3_requireArgument 11 = .ok (.invokespecial 311, 3) := by decide +kernel
theorem dX3_requireArgument_14 : decode cX3_requireArgument 14 = .ok (.athrow, 1) := by decide +kernel
theorem dX3_requireArgument_15 : decode cX3_requireArgument 15 = .ok (.return_, 1) := by decide +kernel
theorem dX3_requireState_0 : decode cX3_requireState 0 = .ok (.iload_n 0, 1) := by decide +kernel
theorem dX3_requireState_1 : decode cX3_requireState 1 = .ok (.ifCond .ne 14, 3) := by decide +kernel
theorem dX3_requireState_4 : decode cX3_requireState 4 = .ok (.new 318, 3) := by decide +kernel
theorem dX3_requireState_7 : decode cX3_requireState 7 = .ok (.dup, 1) := by decide +kernel
theorem dX3_requireState_8 : decode cX3_requireState 8 = .ok (.ldc_w 348, 3) := by decide +kernel
theorem dX3_requireState_11 : decode cX3_requireState 11 = .ok (.invokespecial 322, 3) := by decide +kernel
theorem dX3_requireState_14 : decode cX3_requireState 14 = .ok (.athrow, 1) := by decide +kernel
theorem dX3_requireState_15 : decode cX3_requireState 15 = .ok (.return_, 1) := by decide +kernel
theorem dX3_requireSupport_0 : decode cX3_requireSupport 0 = .ok (.iload_n 0, 1) := by decide +kernel
theorem dX3_requireSupport_1 : decode cX3_requireSupport 1 = .ok (.ifCond .ne 14, 3) := by decide +kernel
theorem dX3_requireSupport_4 : decode cX3_requireSupport 4 = .ok (.new 350, 3) := by decide +kernel
theorem dX3_requireSupport_7 : decode cX3_requireSupport 7 = .ok (.dup, 1) := by decide +kernel
theorem dX3_requireSupport_8 : decode cX3_requireSupport 8 = .ok (.ldc_w 352, 3) := by decide +kernel
theorem dX3_requireSupport_11 : decode cX3_requireSupport 11 = .ok (.invokespecial 354, 3) := by decide +kernel
theorem dX3_requireSupport_14 : decode cX3_requireSupport 14 = .ok (.athrow, 1) := by decide +kernel
theorem dX3_requireSupport_15 : decode cX3_requireSupport 15 = .ok (.return_, 1) := by decide +kernel
theorem dX3_requireFound_0 : decode cX3_requireFound 0 = .ok (.iload_n 0, 1) := by decide +kernel
theorem dX3_requireFound_1 : decode cX3_requireFound 1 = .ok (.ifCond .ne 14, 3) := by decide +kernel
theorem dX3_requireFound_4 : decode cX3_requireFound 4 = .ok (.new 355, 3) := by decide +kernel
theorem dX3_requireFound_7 : decode cX3_requireFound 7 = .ok (.dup, 1) := by decide +kernel
theorem dX3_requireFound_8 : decode cX3_requireFound 8 = .ok (.ldc_w 357, 3) := by decide +kernel
theorem dX3_requireFound_11 : decode cX3_requireFound 11 = .ok (.invokespecial 359, 3) := by decide +kernel
theorem dX3_requireFound_14 : decode cX3_requireFound 14 = .ok (.athrow, 1) := by decide +kernel
theorem dX3_requireFound_15 : decode cX3_requireFound 15 = .ok (.return_, 1) := by decide +kernel
theorem dX3_holds_0 : decode cX3_holds 0 = .ok (.iload_n 0, 1) := by decide +kernel
theorem dX3_holds_1 : decode cX3_holds 1 = .ok (.iload_n 1, 1) := by decide +kernel
theorem dX3_holds_2 : decode cX3_holds 2 = .ok (.iushr, 1) := by decide +kernel
theorem dX3_holds_3 : decode cX3_holds 3 = .ok (.iconst 1, 1) := by decide +kernel
theorem dX3_holds_4 : decode cX3_holds 4 = .ok (.iand, 1) := by decide +kernel
theorem dX3_holds_5 : decode cX3_holds 5 = .ok (.ifCond .eq 7, 3) := by decide +kernel
theorem dX3_holds_8 : decode cX3_holds 8 = .ok (.iconst 1, 1) := by decide +kernel
theorem dX3_holds_9 : decode cX3_holds 9 = .ok (.goto 4, 3) := by decide +kernel
theorem dX3_holds_12 : decode cX3_holds 12 = .ok (.iconst 0, 1) := by decide +kernel
theorem dX3_holds_13 : decode cX3_holds 13 = .ok (.ireturn, 1) := by decide +kernel
theorem dX3_setOf_0 : decode cX3_setOf 0 = .ok (.iconst 1, 1) := by decide +kernel
theorem dX3_setOf_1 : decode cX3_setOf 1 = .ok (.iload_n 0, 1) := by decide +kernel
theorem dX3_setOf_2 : decode cX3_setOf 2 = .ok (.ishl, 1) := by decide +kernel
theorem dX3_setOf_3 : decode cX3_setOf 3 = .ok (.ireturn, 1) := by decide +kernel
theorem dX3_agreesWithClosure_0 : decode cX3_agreesWithClosure 0 = .ok (.iconst 0, 1) := by decide +kernel
theorem dX3_agreesWithClosure_1 : decode cX3_agreesWithClosure 1 = .ok (.istore_n 3, 1) := by decide +kernel
theorem dX3_agreesWithClosure_2 : decode cX3_agreesWithClosure 2 = .ok (.iload_n 3, 1) := by decide +kernel
theorem dX3_agreesWithClosure_3 : decode cX3_agreesWithClosure 3 = .ok (.aload_n 0, 1) := by decide +kernel
theorem dX3_agreesWithClosure_4 : decode cX3_agreesWithClosure 4 = .ok (.getfield 12, 3) := by decide +kernel
theorem dX3_agreesWithClosure_7 : decode cX3_agreesWithClosure 7 = .ok (.getfield 112, 3) := by decide +kernel
theorem dX3_agreesWithClosure_10 : decode cX3_agreesWithClosure 10 = .ok (.if_icmp .ge 28, 3) := by decide +kernel
theorem dX3_agreesWithClosure_13 : decode cX3_agreesWithClosure 13 = .ok (.aload_n 0, 1) := by decide +kernel
theorem dX3_agreesWithClosure_14 : decode cX3_agreesWithClosure 14 = .ok (.getfield 12, 3) := by decide +kernel
theorem dX3_agreesWithClosure_17 : decode cX3_agreesWithClosure 17 = .ok (.iload_n 1, 1) := by decide +kernel
theorem dX3_agreesWithClosure_18 : decode cX3_agreesWithClosure 18 = .ok (.iload_n 3, 1) := by decide +kernel
theorem dX3_agreesWithClosure_19 : decode cX3_agreesWithClosure 19 = .ok (.invokevirtual 124, 3) := by decide +kernel
theorem dX3_agreesWithClosure_22 : decode cX3_agreesWithClosure 22 = .ok (.iload_n 2, 1) := by decide +kernel
theorem dX3_agreesWithClosure_23 : decode cX3_agreesWithClosure 23 = .ok (.iload_n 3, 1) := by decide +kernel
theorem dX3_agreesWithClosure_24 : decode cX3_agreesWithClosure 24 = .ok (.invokestatic 131, 3) := by decide +kernel
theorem dX3_agreesWithClosure_27 : decode cX3_agreesWithClosure 27 = .ok (.if_icmp .eq 5, 3) := by decide +kernel
theorem dX3_agreesWithClosure_30 : decode cX3_agreesWithClosure 30 = .ok (.iconst 0, 1) := by decide +kernel
theorem dX3_agreesWithClosure_31 : decode cX3_agreesWithClosure 31 = .ok (.ireturn, 1) := by decide +kernel
theorem dX3_agreesWithClosure_32 : decode cX3_agreesWithClosure 32 = .ok (.iinc 3 1, 3) := by decide +kernel
theorem dX3_agreesWithClosure_35 : decode cX3_agreesWithClosure 35 = .ok (.goto (-33), 3) := by decide +kernel
theorem dX3_agreesWithClosure_38 : decode cX3_agreesWithClosure 38 = .ok (.iconst 1, 1) := by decide +kernel
theorem dX3_agreesWithClosure_39 : decode cX3_agreesWithClosure 39 = .ok (.ireturn, 1) := by decide +kernel
theorem dX3_daysOnTrial_0 : decode cX3_daysOnTrial 0 = .ok (.aload_n 0, 1) := by decide +kernel
theorem dX3_daysOnTrial_1 : decode cX3_daysOnTrial 1 = .ok (.getfield 16, 3) := by decide +kernel
theorem dX3_daysOnTrial_4 : decode cX3_daysOnTrial 4 = .ok (.aload_n 0, 1) := by decide +kernel
theorem dX3_daysOnTrial_5 : decode cX3_daysOnTrial 5 = .ok (.getfield 12, 3) := by decide +kernel
theorem dX3_daysOnTrial_8 : decode cX3_daysOnTrial 8 = .ok (.invokevirtual 312, 3) := by decide +kernel
theorem dX3_daysOnTrial_11 : decode cX3_daysOnTrial 11 = .ok (.iconst 0, 1) := by decide +kernel
theorem dX3_daysOnTrial_12 : decode cX3_daysOnTrial 12 = .ok (.istore_n 2, 1) := by decide +kernel
theorem dX3_daysOnTrial_13 : decode cX3_daysOnTrial 13 = .ok (.iload_n 2, 1) := by decide +kernel
theorem dX3_daysOnTrial_14 : decode cX3_daysOnTrial 14 = .ok (.bipush 52, 2) := by decide +kernel
theorem dX3_daysOnTrial_16 : decode cX3_daysOnTrial 16 = .ok (.if_icmp .gt 30, 3) := by decide +kernel
theorem dX3_daysOnTrial_19 : decode cX3_daysOnTrial 19 = .ok (.aload_n 0, 1) := by decide +kernel
theorem dX3_daysOnTrial_20 : decode cX3_daysOnTrial 20 = .ok (.getfield 16, 3) := by decide +kernel
theorem dX3_daysOnTrial_23 : decode cX3_daysOnTrial 23 = .ok (.iload_n 1, 1) := by decide +kernel
theorem dX3_daysOnTrial_24 : decode cX3_daysOnTrial 24 = .ok (.invokevirtual 94, 3) := by decide +kernel
theorem dX3_daysOnTrial_27 : decode cX3_daysOnTrial 27 = .ok (.ifCond .eq 5, 3) := by decide +kernel
theorem dX3_daysOnTrial_30 : decode cX3_daysOnTrial 30 = .ok (.iload_n 2, 1) := by decide +kernel
theorem dX3_daysOnTrial_31 : decode cX3_daysOnTrial 31 = .ok (.ireturn, 1) := by decide +kernel
theorem dX3_daysOnTrial_32 : decode cX3_daysOnTrial 32 = .ok (.aload_n 0, 1) := by decide +kernel
theorem dX3_daysOnTrial_33 : decode cX3_daysOnTrial 33 = .ok (.getfield 16, 3) := by decide +kernel
theorem dX3_daysOnTrial_36 : decode cX3_daysOnTrial 36 = .ok (.invokevirtual 360, 3) := by decide +kernel
theorem dX3_daysOnTrial_39 : decode cX3_daysOnTrial 39 = .ok (.pop, 1) := by decide +kernel
theorem dX3_daysOnTrial_40 : decode cX3_daysOnTrial 40 = .ok (.iinc 2 1, 3) := by decide +kernel
theorem dX3_daysOnTrial_43 : decode cX3_daysOnTrial 43 = .ok (.goto (-30), 3) := by decide +kernel
theorem dX3_daysOnTrial_46 : decode cX3_daysOnTrial 46 = .ok (.iconst (-1), 1) := by decide +kernel
theorem dX3_daysOnTrial_47 : decode cX3_daysOnTrial 47 = .ok (.ireturn, 1) := by decide +kernel
theorem dX3_daysNeeded_0 : decode cX3_daysNeeded 0 = .ok (.aload_n 0, 1) := by decide +kernel
theorem dX3_daysNeeded_1 : decode cX3_daysNeeded 1 = .ok (.iload_n 1, 1) := by decide +kernel
theorem dX3_daysNeeded_2 : decode cX3_daysNeeded 2 = .ok (.invokevirtual 94, 3) := by decide +kernel
theorem dX3_daysNeeded_5 : decode cX3_daysNeeded 5 = .ok (.ifCond .eq 5, 3) := by decide +kernel
theorem dX3_daysNeeded_8 : decode cX3_daysNeeded 8 = .ok (.iconst 0, 1) := by decide +kernel
theorem dX3_daysNeeded_9 : decode cX3_daysNeeded 9 = .ok (.ireturn, 1) := by decide +kernel
theorem dX3_daysNeeded_10 : decode cX3_daysNeeded 10 = .ok (.aload_n 0, 1) := by decide +kernel
theorem dX3_daysNeeded_11 : decode cX3_daysNeeded 11 = .ok (.iload_n 1, 1) := by decide +kernel
theorem dX3_daysNeeded_12 : decode cX3_daysNeeded 12 = .ok (.invokevirtual 363, 3) := by decide +kernel
theorem dX3_daysNeeded_15 : decode cX3_daysNeeded 15 = .ok (.istore_n 3, 1) := by decide +kernel
theorem dX3_daysNeeded_16 : decode cX3_daysNeeded 16 = .ok (.aload_n 0, 1) := by decide +kernel
theorem dX3_daysNeeded_17 : decode cX3_daysNeeded 17 = .ok (.iload_n 1, 1) := by decide +kernel
theorem dX3_daysNeeded_18 : decode cX3_daysNeeded 18 = .ok (.invokevirtual 292, 3) := by decide +kernel
theorem dX3_daysNeeded_21 : decode cX3_daysNeeded 21 = .ok (.ifCond .eq 14, 3) := by decide +kernel
theorem dX3_daysNeeded_24 : decode cX3_daysNeeded 24 = .ok (.iload_n 3, 1) := by decide +kernel
theorem dX3_daysNeeded_25 : decode cX3_daysNeeded 25 = .ok (.iconst 1, 1) := by decide +kernel
theorem dX3_daysNeeded_26 : decode cX3_daysNeeded 26 = .ok (.if_icmp .lt 9, 3) := by decide +kernel
theorem dX3_daysNeeded_29 : decode cX3_daysNeeded 29 = .ok (.iload_n 2, 1) := by decide +kernel
theorem dX3_daysNeeded_30 : decode cX3_daysNeeded 30 = .ok (.bipush 16, 2) := by decide +kernel
theorem dX3_daysNeeded_32 : decode cX3_daysNeeded 32 = .ok (.if_icmp .lt 5, 3) := by decide +kernel
theorem dX3_daysNeeded_35 : decode cX3_daysNeeded 35 = .ok (.iconst (-1), 1) := by decide +kernel
theorem dX3_daysNeeded_36 : decode cX3_daysNeeded 36 = .ok (.ireturn, 1) := by decide +kernel
theorem dX3_daysNeeded_37 : decode cX3_daysNeeded 37 = .ok (.iconst 0, 1) := by decide +kernel
theorem dX3_daysNeeded_38 : decode cX3_daysNeeded 38 = .ok (.istore 4, 2) := by decide +kernel
theorem dX3_daysNeeded_40 : decode cX3_daysNeeded 40 = .ok (.iconst 0, 1) := by decide +kernel
theorem dX3_daysNeeded_41 : decode cX3_daysNeeded 41 = .ok (.istore 5, 2) := by decide +kernel
theorem dX3_daysNeeded_43 : decode cX3_daysNeeded 43 = .ok (.iload 5, 2) := by decide +kernel
theorem dX3_daysNeeded_45 : decode cX3_daysNeeded 45 = .ok (.aload_n 0, 1) := by decide +kernel
theorem dX3_daysNeeded_46 : decode cX3_daysNeeded 46 = .ok (.getfield 112, 3) := by decide +kernel
theorem dX3_daysNeeded_49 : decode cX3_daysNeeded 49 = .ok (.if_icmp .ge 47, 3) := by decide +kernel
theorem dX3_daysNeeded_52 : decode cX3_daysNeeded 52 = .ok (.aload_n 0, 1) := by decide +kernel
theorem dX3_daysNeeded_53 : decode cX3_daysNeeded 53 = .ok (.iload_n 1, 1) := by decide +kernel
theorem dX3_daysNeeded_54 : decode cX3_daysNeeded 54 = .ok (.iload 5, 2) := by decide +kernel
theorem dX3_daysNeeded_56 : decode cX3_daysNeeded 56 = .ok (.invokevirtual 91, 3) := by decide +kernel
theorem dX3_daysNeeded_59 : decode cX3_daysNeeded 59 = .ok (.ifCond .eq 31, 3) := by decide +kernel
theorem dX3_daysNeeded_62 : decode cX3_daysNeeded 62 = .ok (.aload_n 0, 1) := by decide +kernel
theorem dX3_daysNeeded_63 : decode cX3_daysNeeded 63 = .ok (.iload 5, 2) := by decide +kernel
theorem dX3_daysNeeded_65 : decode cX3_daysNeeded 65 = .ok (.iload_n 2, 1) := by decide +kernel
theorem dX3_daysNeeded_66 : decode cX3_daysNeeded 66 = .ok (.iconst 1, 1) := by decide +kernel
theorem dX3_daysNeeded_67 : decode cX3_daysNeeded 67 = .ok (.iadd, 1) := by decide +kernel
theorem dX3_daysNeeded_68 : decode cX3_daysNeeded 68 = .ok (.invokestatic 271, 3) := by decide +kernel
theorem dX3_daysNeeded_71 : decode cX3_daysNeeded 71 = .ok (.istore 6, 2) := by decide +kernel
theorem dX3_daysNeeded_73 : decode cX3_daysNeeded 73 = .ok (.iload 6, 2) := by decide +kernel
theorem dX3_daysNeeded_75 : decode cX3_daysNeeded 75 = .ok (.iconst (-1), 1) := by decide +kernel
theorem dX3_daysNeeded_76 : decode cX3_daysNeeded 76 = .ok (.if_icmp .ne 5, 3) := by decide +kernel
theorem dX3_daysNeeded_79 : decode cX3_daysNeeded 79 = .ok (.iconst (-1), 1) := by decide +kernel
theorem dX3_daysNeeded_80 : decode cX3_daysNeeded 80 = .ok (.ireturn, 1) := by decide +kernel
theorem dX3_daysNeeded_81 : decode cX3_daysNeeded 81 = .ok (.iload 4, 2) := by decide +kernel
theorem dX3_daysNeeded_83 : decode cX3_daysNeeded 83 = .ok (.iload 6, 2) := by decide +kernel
theorem dX3_daysNeeded_85 : decode cX3_daysNeeded 85 = .ok (.invokestatic 366, 3) := by decide +kernel
theorem dX3_daysNeeded_88 : decode cX3_daysNeeded 88 = .ok (.istore 4, 2) := by decide +kernel
theorem dX3_daysNeeded_90 : decode cX3_daysNeeded 90 = .ok (.iinc 5 1, 3) := by decide +kernel
theorem dX3_daysNeeded_93 : decode cX3_daysNeeded 93 = .ok (.goto (-50), 3) := by decide +kernel
theorem dX3_daysNeeded_96 : decode cX3_daysNeeded 96 = .ok (.iload 4, 2) := by decide +kernel
theorem dX3_daysNeeded_98 : decode cX3_daysNeeded 98 = .ok (.aload_n 0, 1) := by decide +kernel
theorem dX3_daysNeeded_99 : decode cX3_daysNeeded 99 = .ok (.getfield 118, 3) := by decide +kernel
theorem dX3_daysNeeded_102 : decode cX3_daysNeeded 102 = .ok (.iload_n 1, 1) := by decide +kernel
theorem dX3_daysNeeded_103 : decode cX3_daysNeeded 103 = .ok (.iaload, 1) := by decide +kernel
theorem dX3_daysNeeded_104 : decode cX3_daysNeeded 104 = .ok (.iload_n 3, 1) := by decide +kernel
theorem dX3_daysNeeded_105 : decode cX3_daysNeeded 105 = .ok (.iadd, 1) := by decide +kernel
theorem dX3_daysNeeded_106 : decode cX3_daysNeeded 106 = .ok (.iconst 1, 1) := by decide +kernel
theorem dX3_daysNeeded_107 : decode cX3_daysNeeded 107 = .ok (.isub, 1) := by decide +kernel
theorem dX3_daysNeeded_108 : decode cX3_daysNeeded 108 = .ok (.iload_n 3, 1) := by decide +kernel
theorem dX3_daysNeeded_109 : decode cX3_daysNeeded 109 = .ok (.idiv, 1) := by decide +kernel
theorem dX3_daysNeeded_110 : decode cX3_daysNeeded 110 = .ok (.iadd, 1) := by decide +kernel
theorem dX3_daysNeeded_111 : decode cX3_daysNeeded 111 = .ok (.ireturn, 1) := by decide +kernel
theorem dX3_carryOutCommands_0 : decode cX3_carryOutCommands 0 = .ok (.iconst 0, 1) := by decide +kernel
theorem dX3_carryOutCommands_1 : decode cX3_carryOutCommands 1 = .ok (.istore_n 1, 1) := by decide +kernel
theorem dX3_carryOutCommands_2 : decode cX3_carryOutCommands 2 = .ok (.iload_n 1, 1) := by decide +kernel
theorem dX3_carryOutCommands_3 : decode cX3_carryOutCommands 3 = .ok (.aload_n 0, 1) := by decide +kernel
theorem dX3_carryOutCommands_4 : decode cX3_carryOutCommands 4 = .ok (.getfield 35, 3) := by decide +kernel
theorem dX3_carryOutCommands_7 : decode cX3_carryOutCommands 7 = .ok (.getfield 323, 3) := by decide +kernel
theorem dX3_carryOutCommands_10 : decode cX3_carryOutCommands 10 = .ok (.if_icmp .ge 67, 3) := by decide +kernel
theorem dX3_carryOutCommands_13 : decode cX3_carryOutCommands 13 = .ok (.iload_n 1, 1) := by decide +kernel
theorem dX3_carryOutCommands_14 : decode cX3_carryOutCommands 14 = .ok (.bipush 60, 2) := by decide +kernel
theorem dX3_carryOutCommands_16 : decode cX3_carryOutCommands 16 = .ok (.if_icmp .ge 61, 3) := by decide +kernel
theorem dX3_carryOutCommands_19 : decode cX3_carryOutCommands 19 = .ok (.aload_n 0, 1) := by decide +kernel
theorem dX3_carryOutCommands_20 : decode cX3_carryOutCommands 20 = .ok (.getfield 35, 3) := by decide +kernel
theorem dX3_carryOutCommands_23 : decode cX3_carryOutCommands 23 = .ok (.getfield 371, 3) := by decide +kernel
theorem dX3_carryOutCommands_26 : decode cX3_carryOutCommands 26 = .ok (.iload_n 1, 1) := by decide +kernel
theorem dX3_carryOutCommands_27 : decode cX3_carryOutCommands 27 = .ok (.iaload, 1) := by decide +kernel
theorem dX3_carryOutCommands_28 : decode cX3_carryOutCommands 28 = .ok (.istore_n 2, 1) := by decide +kernel
theorem dX3_carryOutCommands_29 : decode cX3_carryOutCommands 29 = .ok (.aload_n 0, 1) := by decide +kernel
theorem dX3_carryOutCommands_30 : decode cX3_carryOutCommands 30 = .ok (.getfield 35, 3) := by decide +kernel
theorem dX3_carryOutCommands_33 : decode cX3_carryOutCommands 33 = .ok (.getfield 374, 3) := by decide +kernel
theorem dX3_carryOutCommands_36 : decode cX3_carryOutCommands 36 = .ok (.iload_n 1, 1) := by decide +kernel
theorem dX3_carryOutCommands_37 : decode cX3_carryOutCommands 37 = .ok (.iaload, 1) := by decide +kernel
theorem dX3_carryOutCommands_38 : decode cX3_carryOutCommands 38 = .ok (.istore_n 3, 1) := by decide +kernel
theorem dX3_carryOutCommands_39 : decode cX3_carryOutCommands 39 = .ok (.aload_n 0, 1) := by decide +kernel
theorem dX3_carryOutCommands_40 : decode cX3_carryOutCommands 40 = .ok (.getfield 35, 3) := by decide +kernel
theorem dX3_carryOutCommands_43 : decode cX3_carryOutCommands 43 = .ok (.getfield 377, 3) := by decide +kernel
theorem dX3_carryOutCommands_46 : decode cX3_carryOutCommands 46 = .ok (.iload_n 1, 1) := by decide +kernel
theorem dX3_carryOutCommands_47 : decode cX3_carryOutCommands 47 = .ok (.iaload, 1) := by decide +kernel
theorem dX3_carryOutCommands_48 : decode cX3_carryOutCommands 48 = .ok (.istore 4, 2) := by decide +kernel
theorem dX3_carryOutCommands_50 : decode cX3_carryOutCommands 50 = .ok (.aload_n 0, 1) := by decide +kernel
theorem dX3_carryOutCommands_51 : decode cX3_carryOutCommands 51 = .ok (.iload_n 2, 1) := by decide +kernel
theorem dX3_carryOutCommands_52 : decode cX3_carryOutCommands 52 = .ok (.iload_n 3, 1) := by decide +kernel
theorem dX3_carryOutCommands_53 : decode cX3_carryOutCommands 53 = .ok (.iload 4, 2) := by decide +kernel
theorem dX3_carryOutCommands_55 : decode cX3_carryOutCommands 55 = .ok (.invokevirtual 380, 3) := by decide +kernel
theorem dX3_carryOutCommands_58 : decode cX3_carryOutCommands 58 = .ok (.ifCond .ne 5, 3) := by decide +kernel
theorem dX3_carryOutCommands_61 : decode cX3_carryOutCommands 61 = .ok (.iload_n 1, 1) := by decide +kernel
theorem dX3_carryOutCommands_62 : decode cX3_carryOutCommands 62 = .ok (.ireturn, 1) := by decide +kernel
theorem dX3_carryOutCommands_63 : decode cX3_carryOutCommands 63 = .ok (.aload_n 0, 1) := by decide +kernel
theorem dX3_carryOutCommands_64 : decode cX3_carryOutCommands 64 = .ok (.iload_n 2, 1) := by decide +kernel
theorem dX3_carryOutCommands_65 : decode cX3_carryOutCommands 65 = .ok (.iload_n 3, 1) := by decide +kernel
theorem dX3_carryOutCommands_66 : decode cX3_carryOutCommands 66 = .ok (.iload 4, 2) := by decide +kernel
theorem dX3_carryOutCommands_68 : decode cX3_carryOutCommands 68 = .ok (.invokevirtual 384, 3) := by decide +kernel
theorem dX3_carryOutCommands_71 : decode cX3_carryOutCommands 71 = .ok (.iinc 1 1, 3) := by decide +kernel
theorem dX3_carryOutCommands_74 : decode cX3_carryOutCommands 74 = .ok (.goto (-72), 3) := by decide +kernel
theorem dX3_carryOutCommands_77 : decode cX3_carryOutCommands 77 = .ok (.iconst (-1), 1) := by decide +kernel
theorem dX3_carryOutCommands_78 : decode cX3_carryOutCommands 78 = .ok (.ireturn, 1) := by decide +kernel
theorem dX3_allows_0 : decode cX3_allows 0 = .ok (.iload_n 1, 1) := by decide +kernel
theorem dX3_allows_1 : decode cX3_allows 1 = .ok (.tableswitch 173 0 11 #[63, 72, 81, 91, 101, 110, 119, 128, 138, 147, 157, 165], 63) := by decide +kernel
theorem dX3_allows_64 : decode cX3_allows 64 = .ok (.aload_n 0, 1) := by decide +kernel
theorem dX3_allows_65 : decode cX3_allows 65 = .ok (.getfield 12, 3) := by decide +kernel
theorem dX3_allows_68 : decode cX3_allows 68 = .ok (.iload_n 2, 1) := by decide +kernel
theorem dX3_allows_69 : decode cX3_allows 69 = .ok (.invokevirtual 65, 3) := by decide +kernel
theorem dX3_allows_72 : decode cX3_allows 72 = .ok (.ireturn, 1) := by decide +kernel
theorem dX3_allows_73 : decode cX3_allows 73 = .ok (.aload_n 0, 1) := by decide +kernel
theorem dX3_allows_74 : decode cX3_allows 74 = .ok (.getfield 12, 3) := by decide +kernel
theorem dX3_allows_77 : decode cX3_allows 77 = .ok (.iload_n 2, 1) := by decide +kernel
theorem dX3_allows_78 : decode cX3_allows 78 = .ok (.invokevirtual 146, 3) := by decide +kernel
theorem dX3_allows_81 : decode cX3_allows 81 = .ok (.ireturn, 1) := by decide +kernel
theorem dX3_allows_82 : decode cX3_allows 82 = .ok (.aload_n 0, 1) := by decide +kernel
theorem dX3_allows_83 : decode cX3_allows 83 = .ok (.getfield 12, 3) := by decide +kernel
theorem dX3_allows_86 : decode cX3_allows 86 = .ok (.iload_n 2, 1) := by decide +kernel
theorem dX3_allows_87 : decode cX3_allows 87 = .ok (.iload_n 3, 1) := by decide +kernel
theorem dX3_allows_88 : decode cX3_allows 88 = .ok (.invokevirtual 97, 3) := by decide +kernel
theorem dX3_allows_91 : decode cX3_allows 91 = .ok (.ireturn, 1) := by decide +kernel
theorem dX3_allows_92 : decode cX3_allows 92 = .ok (.aload_n 0, 1) := by decide +kernel
theorem dX3_allows_93 : decode cX3_allows 93 = .ok (.getfield 12, 3) := by decide +kernel
theorem dX3_allows_96 : decode cX3_allows 96 = .ok (.iload_n 2, 1) := by decide +kernel
theorem dX3_allows_97 : decode cX3_allows 97 = .ok (.iload_n 3, 1) := by decide +kernel
theorem dX3_allows_98 : decode cX3_allows 98 = .ok (.invokevirtual 106, 3) := by decide +kernel
theorem dX3_allows_101 : decode cX3_allows 101 = .ok (.ireturn, 1) := by decide +kernel
theorem dX3_allows_102 : decode cX3_allows 102 = .ok (.aload_n 0, 1) := by decide +kernel
theorem dX3_allows_103 : decode cX3_allows 103 = .ok (.getfield 12, 3) := by decide +kernel
theorem dX3_allows_106 : decode cX3_allows 106 = .ok (.iload_n 2, 1) := by decide +kernel
theorem dX3_allows_107 : decode cX3_allows 107 = .ok (.invokevirtual 184, 3) := by decide +kernel
theorem dX3_allows_110 : decode cX3_allows 110 = .ok (.ireturn, 1) := by decide +kernel
theorem dX3_allows_111 : decode cX3_allows 111 = .ok (.aload_n 0, 1) := by decide +kernel
theorem dX3_allows_112 : decode cX3_allows 112 = .ok (.getfield 12, 3) := by decide +kernel
theorem dX3_allows_115 : decode cX3_allows 115 = .ok (.iload_n 2, 1) := by decide +kernel
theorem dX3_allows_116 : decode cX3_allows 116 = .ok (.invokevirtual 190, 3) := by decide +kernel
theorem dX3_allows_119 : decode cX3_allows 119 = .ok (.ireturn, 1) := by decide +kernel
theorem dX3_allows_120 : decode cX3_allows 120 = .ok (.aload_n 0, 1) := by decide +kernel
theorem dX3_allows_121 : decode cX3_allows 121 = .ok (.getfield 12, 3) := by decide +kernel
theorem dX3_allows_124 : decode cX3_allows 124 = .ok (.iload_n 2, 1) := by decide +kernel
theorem dX3_allows_125 : decode cX3_allows 125 = .ok (.invokevirtual 199, 3) := by decide +kernel
theorem dX3_allows_128 : decode cX3_allows 128 = .ok (.ireturn, 1) := by decide +kernel
theorem dX3_allows_129 : decode cX3_allows 129 = .ok (.aload_n 0, 1) := by decide +kernel
theorem dX3_allows_130 : decode cX3_allows 130 = .ok (.getfield 12, 3) := by decide +kernel
theorem dX3_allows_133 : decode cX3_allows 133 = .ok (.iload_n 2, 1) := by decide +kernel
theorem dX3_allows_134 : decode cX3_allows 134 = .ok (.iload_n 3, 1) := by decide +kernel
theorem dX3_allows_135 : decode cX3_allows 135 = .ok (.invokevirtual 159, 3) := by decide +kernel
theorem dX3_allows_138 : decode cX3_allows 138 = .ok (.ireturn, 1) := by decide +kernel
theorem dX3_allows_139 : decode cX3_allows 139 = .ok (.aload_n 0, 1) := by decide +kernel
theorem dX3_allows_140 : decode cX3_allows 140 = .ok (.getfield 12, 3) := by decide +kernel
theorem dX3_allows_143 : decode cX3_allows 143 = .ok (.iload_n 2, 1) := by decide +kernel
theorem dX3_allows_144 : decode cX3_allows 144 = .ok (.invokevirtual 166, 3) := by decide +kernel
theorem dX3_allows_147 : decode cX3_allows 147 = .ok (.ireturn, 1) := by decide +kernel
theorem dX3_allows_148 : decode cX3_allows 148 = .ok (.aload_n 0, 1) := by decide +kernel
theorem dX3_allows_149 : decode cX3_allows 149 = .ok (.getfield 12, 3) := by decide +kernel
theorem dX3_allows_152 : decode cX3_allows 152 = .ok (.iload_n 2, 1) := by decide +kernel
theorem dX3_allows_153 : decode cX3_allows 153 = .ok (.iload_n 3, 1) := by decide +kernel
theorem dX3_allows_154 : decode cX3_allows 154 = .ok (.invokevirtual 83, 3) := by decide +kernel
theorem dX3_allows_157 : decode cX3_allows 157 = .ok (.ireturn, 1) := by decide +kernel
theorem dX3_allows_158 : decode cX3_allows 158 = .ok (.aload_n 0, 1) := by decide +kernel
theorem dX3_allows_159 : decode cX3_allows 159 = .ok (.getfield 12, 3) := by decide +kernel
theorem dX3_allows_162 : decode cX3_allows 162 = .ok (.invokevirtual 205, 3) := by decide +kernel
theorem dX3_allows_165 : decode cX3_allows 165 = .ok (.ireturn, 1) := by decide +kernel
theorem dX3_allows_166 : decode cX3_allows 166 = .ok (.aload_n 0, 1) := by decide +kernel
theorem dX3_allows_167 : decode cX3_allows 167 = .ok (.getfield 12, 3) := by decide +kernel
theorem dX3_allows_170 : decode cX3_allows 170 = .ok (.getfield 155, 3) := by decide +kernel
theorem dX3_allows_173 : decode cX3_allows 173 = .ok (.ireturn, 1) := by decide +kernel
theorem dX3_allows_174 : decode cX3_allows 174 = .ok (.iconst 0, 1) := by decide +kernel
theorem dX3_allows_175 : decode cX3_allows 175 = .ok (.ireturn, 1) := by decide +kernel
theorem dX3_carryOut_0 : decode cX3_carryOut 0 = .ok (.iload_n 1, 1) := by decide +kernel
theorem dX3_carryOut_1 : decode cX3_carryOut 1 = .ok (.tableswitch 208 0 11 #[63, 75, 87, 100, 113, 125, 137, 149, 161, 173, 186, 197], 63) := by decide +kernel
theorem dX3_carryOut_64 : decode cX3_carryOut 64 = .ok (.aload_n 0, 1) := by decide +kernel
theorem dX3_carryOut_65 : decode cX3_carryOut 65 = .ok (.getfield 12, 3) := by decide +kernel
theorem dX3_carryOut_68 : decode cX3_carryOut 68 = .ok (.iload_n 2, 1) := by decide +kernel
theorem dX3_carryOut_69 : decode cX3_carryOut 69 = .ok (.invokevirtual 75, 3) := by decide +kernel
theorem dX3_carryOut_72 : decode cX3_carryOut 72 = .ok (.pop, 1) := by decide +kernel
theorem dX3_carryOut_73 : decode cX3_carryOut 73 = .ok (.goto 136, 3) := by decide +kernel
theorem dX3_carryOut_76 : decode cX3_carryOut 76 = .ok (.aload_n 0, 1) := by decide +kernel
theorem dX3_carryOut_77 : decode cX3_carryOut 77 = .ok (.getfield 12, 3) := by decide +kernel
theorem dX3_carryOut_80 : decode cX3_carryOut 80 = .ok (.iload_n 2, 1) := by decide +kernel
theorem dX3_carryOut_81 : decode cX3_carryOut 81 = .ok (.invokevirtual 149, 3) := by decide +kernel
theorem dX3_carryOut_84 : decode cX3_carryOut 84 = .ok (.pop, 1) := by decide +kernel
theorem dX3_carryOut_85 : decode cX3_carryOut 85 = .ok (.goto 124, 3) := by decide +kernel
theorem dX3_carryOut_88 : decode cX3_carryOut 88 = .ok (.aload_n 0, 1) := by decide +kernel
theorem dX3_carryOut_89 : decode cX3_carryOut 89 = .ok (.getfield 12, 3) := by decide +kernel
theorem dX3_carryOut_92 : decode cX3_carryOut 92 = .ok (.iload_n 2, 1) := by decide +kernel
theorem dX3_carryOut_93 : decode cX3_carryOut 93 = .ok (.iload_n 3, 1) := by decide +kernel
theorem dX3_carryOut_94 : decode cX3_carryOut 94 = .ok (.invokevirtual 103, 3) := by decide +kernel
theorem dX3_carryOut_97 : decode cX3_carryOut 97 = .ok (.pop, 1) := by decide +kernel
theorem dX3_carryOut_98 : decode cX3_carryOut 98 = .ok (.goto 111, 3) := by decide +kernel
theorem dX3_carryOut_101 : decode cX3_carryOut 101 = .ok (.aload_n 0, 1) := by decide +kernel
theorem dX3_carryOut_102 : decode cX3_carryOut 102 = .ok (.getfield 12, 3) := by decide +kernel
theorem dX3_carryOut_105 : decode cX3_carryOut 105 = .ok (.iload_n 2, 1) := by decide +kernel
theorem dX3_carryOut_106 : decode cX3_carryOut 106 = .ok (.iload_n 3, 1) := by decide +kernel
theorem dX3_carryOut_107 : decode cX3_carryOut 107 = .ok (.invokevirtual 109, 3) := by decide +kernel
theorem dX3_carryOut_110 : decode cX3_carryOut 110 = .ok (.pop, 1) := by decide +kernel
theorem dX3_carryOut_111 : decode cX3_carryOut 111 = .ok (.goto 98, 3) := by decide +kernel
theorem dX3_carryOut_114 : decode cX3_carryOut 114 = .ok (.aload_n 0, 1) := by decide +kernel
theorem dX3_carryOut_115 : decode cX3_carryOut 115 = .ok (.getfield 12, 3) := by decide +kernel
theorem dX3_carryOut_118 : decode cX3_carryOut 118 = .ok (.iload_n 2, 1) := by decide +kernel
theorem dX3_carryOut_119 : decode cX3_carryOut 119 = .ok (.invokevirtual 187, 3) := by decide +kernel
theorem dX3_carryOut_122 : decode cX3_carryOut 122 = .ok (.pop, 1) := by decide +kernel
theorem dX3_carryOut_123 : decode cX3_carryOut 123 = .ok (.goto 86, 3) := by decide +kernel
theorem dX3_carryOut_126 : decode cX3_carryOut 126 = .ok (.aload_n 0, 1) := by decide +kernel
theorem dX3_carryOut_127 : decode cX3_carryOut 127 = .ok (.getfield 12, 3) := by decide +kernel
theorem dX3_carryOut_130 : decode cX3_carryOut 130 = .ok (.iload_n 2, 1) := by decide +kernel
theorem dX3_carryOut_131 : decode cX3_carryOut 131 = .ok (.invokevirtual 193, 3) := by decide +kernel
theorem dX3_carryOut_134 : decode cX3_carryOut 134 = .ok (.pop, 1) := by decide +kernel
theorem dX3_carryOut_135 : decode cX3_carryOut 135 = .ok (.goto 74, 3) := by decide +kernel
theorem dX3_carryOut_138 : decode cX3_carryOut 138 = .ok (.aload_n 0, 1) := by decide +kernel
theorem dX3_carryOut_139 : decode cX3_carryOut 139 = .ok (.getfield 12, 3) := by decide +kernel
theorem dX3_carryOut_142 : decode cX3_carryOut 142 = .ok (.iload_n 2, 1) := by decide +kernel
theorem dX3_carryOut_143 : decode cX3_carryOut 143 = .ok (.invokevirtual 202, 3) := by decide +kernel
theorem dX3_carryOut_146 : decode cX3_carryOut 146 = .ok (.pop, 1) := by decide +kernel
theorem dX3_carryOut_147 : decode cX3_carryOut 147 = .ok (.goto 62, 3) := by decide +kernel
theorem dX3_carryOut_150 : decode cX3_carryOut 150 = .ok (.aload_n 0, 1) := by decide +kernel
theorem dX3_carryOut_151 : decode cX3_carryOut 151 = .ok (.getfield 12, 3) := by decide +kernel
theorem dX3_carryOut_154 : decode cX3_carryOut 154 = .ok (.iload_n 2, 1) := by decide +kernel
theorem dX3_carryOut_155 : decode cX3_carryOut 155 = .ok (.iload_n 3, 1) := by decide +kernel
theorem dX3_carryOut_156 : decode cX3_carryOut 156 = .ok (.invokevirtual 162, 3) := by decide +kernel
theorem dX3_carryOut_159 : decode cX3_carryOut 159 = .ok (.goto 50, 3) := by decide +kernel
theorem dX3_carryOut_162 : decode cX3_carryOut 162 = .ok (.aload_n 0, 1) := by decide +kernel
theorem dX3_carryOut_163 : decode cX3_carryOut 163 = .ok (.getfield 12, 3) := by decide +kernel
theorem dX3_carryOut_166 : decode cX3_carryOut 166 = .ok (.iload_n 2, 1) := by decide +kernel
theorem dX3_carryOut_167 : decode cX3_carryOut 167 = .ok (.invokevirtual 169, 3) := by decide +kernel
theorem dX3_carryOut_170 : decode cX3_carryOut 170 = .ok (.pop, 1) := by decide +kernel
theorem dX3_carryOut_171 : decode cX3_carryOut 171 = .ok (.goto 38, 3) := by decide +kernel
theorem dX3_carryOut_174 : decode cX3_carryOut 174 = .ok (.aload_n 0, 1) := by decide +kernel
theorem dX3_carryOut_175 : decode cX3_carryOut 175 = .ok (.getfield 12, 3) := by decide +kernel
theorem dX3_carryOut_178 : decode cX3_carryOut 178 = .ok (.iload_n 2, 1) := by decide +kernel
theorem dX3_carryOut_179 : decode cX3_carryOut 179 = .ok (.iload_n 3, 1) := by decide +kernel
theorem dX3_carryOut_180 : decode cX3_carryOut 180 = .ok (.invokevirtual 87, 3) := by decide +kernel
theorem dX3_carryOut_183 : decode cX3_carryOut 183 = .ok (.pop, 1) := by decide +kernel
theorem dX3_carryOut_184 : decode cX3_carryOut 184 = .ok (.goto 25, 3) := by decide +kernel
theorem dX3_carryOut_187 : decode cX3_carryOut 187 = .ok (.aload_n 0, 1) := by decide +kernel
theorem dX3_carryOut_188 : decode cX3_carryOut 188 = .ok (.getfield 12, 3) := by decide +kernel
theorem dX3_carryOut_191 : decode cX3_carryOut 191 = .ok (.invokevirtual 209, 3) := by decide +kernel
theorem dX3_carryOut_194 : decode cX3_carryOut 194 = .ok (.pop, 1) := by decide +kernel
theorem dX3_carryOut_195 : decode cX3_carryOut 195 = .ok (.goto 14, 3) := by decide +kernel
theorem dX3_carryOut_198 : decode cX3_carryOut 198 = .ok (.aload_n 0, 1) := by decide +kernel
theorem dX3_carryOut_199 : decode cX3_carryOut 199 = .ok (.getfield 12, 3) := by decide +kernel
theorem dX3_carryOut_202 : decode cX3_carryOut 202 = .ok (.invokevirtual 213, 3) := by decide +kernel
theorem dX3_carryOut_205 : decode cX3_carryOut 205 = .ok (.pop, 1) := by decide +kernel
theorem dX3_carryOut_206 : decode cX3_carryOut 206 = .ok (.goto 3, 3) := by decide +kernel
theorem dX3_carryOut_209 : decode cX3_carryOut 209 = .ok (.return_, 1) := by decide +kernel
