/-! the instructions, decoded -/
theorem dX4_init_0 : decode cX4_init 0 = .ok (.aload_n 0, 1) := by decide +kernel
theorem dX4_init_1 : decode cX4_init 1 = .ok (.invokespecial 1, 3) := by decide +kernel
theorem dX4_init_4 : decode cX4_init 4 = .ok (.aload_n 0, 1) := by decide +kernel
theorem dX4_init_5 : decode cX4_init 5 = .ok (.new 7, 3) := by decide +kernel
theorem dX4_init_8 : decode cX4_init 8 = .ok (.dup, 1) := by decide +kernel
theorem dX4_init_9 : decode cX4_init 9 = .ok (.invokespecial 9, 3) := by decide +kernel
theorem dX4_init_12 : decode cX4_init 12 = .ok (.putfield 10, 3) := by decide +kernel
theorem dX4_init_15 : decode cX4_init 15 = .ok (.aload_n 0, 1) := by decide +kernel
theorem dX4_init_16 : decode cX4_init 16 = .ok (.getfield 10, 3) := by decide +kernel
theorem dX4_init_19 : decode cX4_init 19 = .ok (.iconst 4, 1) := by decide +kernel
theorem dX4_init_20 : decode cX4_init 20 = .ok (.iconst 4, 1) := by decide +kernel
theorem dX4_init_21 : decode cX4_init 21 = .ok (.iconst 3, 1) := by decide +kernel
theorem dX4_init_22 : decode cX4_init 22 = .ok (.iconst 0, 1) := by decide +kernel
theorem dX4_init_23 : decode cX4_init 23 = .ok (.invokevirtual 16, 3) := by decide +kernel
theorem dX4_init_26 : decode cX4_init 26 = .ok (.aload_n 0, 1) := by decide +kernel
theorem dX4_init_27 : decode cX4_init 27 = .ok (.new 20, 3) := by decide +kernel
theorem dX4_init_30 : decode cX4_init 30 = .ok (.dup, 1) := by decide +kernel
theorem dX4_init_31 : decode cX4_init 31 = .ok (.aload_n 0, 1) := by decide +kernel
theorem dX4_init_32 : decode cX4_init 32 = .ok (.getfield 10, 3) := by decide +kernel
theorem dX4_init_35 : decode cX4_init 35 = .ok (.invokespecial 22, 3) := by decide +kernel
theorem dX4_init_38 : decode cX4_init 38 = .ok (.putfield 25, 3) := by decide +kernel
theorem dX4_init_41 : decode cX4_init 41 = .ok (.aload_n 0, 1) := by decide +kernel
theorem dX4_init_42 : decode cX4_init 42 = .ok (.new 29, 3) := by decide +kernel
theorem dX4_init_45 : decode cX4_init 45 = .ok (.dup, 1) := by decide +kernel
theorem dX4_init_46 : decode cX4_init 46 = .ok (.aload_n 0, 1) := by decide +kernel
theorem dX4_init_47 : decode cX4_init 47 = .ok (.getfield 10, 3) := by decide +kernel
theorem dX4_init_50 : decode cX4_init 50 = .ok (.invokespecial 31, 3) := by decide +kernel
theorem dX4_init_53 : decode cX4_init 53 = .ok (.putfield 32, 3) := by decide +kernel
theorem dX4_init_56 : decode cX4_init 56 = .ok (.aload_n 0, 1) := by decide +kernel
theorem dX4_init_57 : decode cX4_init 57 = .ok (.new 29, 3) := by decide +kernel
theorem dX4_init_60 : decode cX4_init 60 = .ok (.dup, 1) := by decide +kernel
theorem dX4_init_61 : decode cX4_init 61 = .ok (.aload_n 0, 1) := by decide +kernel
theorem dX4_init_62 : decode cX4_init 62 = .ok (.getfield 10, 3) := by decide +kernel
theorem dX4_init_65 : decode cX4_init 65 = .ok (.invokespecial 31, 3) := by decide +kernel
theorem dX4_init_68 : decode cX4_init 68 = .ok (.putfield 36, 3) := by decide +kernel
theorem dX4_init_71 : decode cX4_init 71 = .ok (.aload_n 0, 1) := by decide +kernel
theorem dX4_init_72 : decode cX4_init 72 = .ok (.iconst 4, 1) := by decide +kernel
theorem dX4_init_73 : decode cX4_init 73 = .ok (.anewarray 39, 3) := by decide +kernel
theorem dX4_init_76 : decode cX4_init 76 = .ok (.putfield 41, 3) := by decide +kernel
theorem dX4_init_79 : decode cX4_init 79 = .ok (.iconst 0, 1) := by decide +kernel
theorem dX4_init_80 : decode cX4_init 80 = .ok (.istore_n 1, 1) := by decide +kernel
theorem dX4_init_81 : decode cX4_init 81 = .ok (.iload_n 1, 1) := by decide +kernel
theorem dX4_init_82 : decode cX4_init 82 = .ok (.iconst 4, 1) := by decide +kernel
theorem dX4_init_83 : decode cX4_init 83 = .ok (.if_icmp .ge 22, 3) := by decide +kernel
theorem dX4_init_86 : decode cX4_init 86 = .ok (.aload_n 0, 1) := by decide +kernel
theorem dX4_init_87 : decode cX4_init 87 = .ok (.getfield 41, 3) := by decide +kernel
theorem dX4_init_90 : decode cX4_init 90 = .ok (.iload_n 1, 1) := by decide +kernel
theorem dX4_init_91 : decode cX4_init 91 = .ok (.new 39, 3) := by decide +kernel
theorem dX4_init_94 : decode cX4_init 94 = .ok (.dup, 1) := by decide +kernel
theorem dX4_init_95 : decode cX4_init 95 = .ok (.invokespecial 45, 3) := by decide +kernel
theorem dX4_init_98 : decode cX4_init 98 = .ok (.aastore, 1) := by decide +kernel
theorem dX4_init_99 : decode cX4_init 99 = .ok (.iinc 1 1, 3) := by decide +kernel
theorem dX4_init_102 : decode cX4_init 102 = .ok (.goto (-21), 3) := by decide +kernel
theorem dX4_init_105 : decode cX4_init 105 = .ok (.return_, 1) := by decide +kernel
theorem dX4_board_0 : decode cX4_board 0 = .ok (.iload_n 1, 1) := by decide +kernel
theorem dX4_board_1 : decode cX4_board 1 = .ok (.iconst 1, 1) := by decide +kernel
theorem dX4_board_2 : decode cX4_board 2 = .ok (.bipush 7, 2) := by decide +kernel
theorem dX4_board_4 : decode cX4_board 4 = .ok (.invokestatic 46, 3) := by decide +kernel
theorem dX4_board_7 : decode cX4_board 7 = .ok (.ifCond .eq 30, 3) := by decide +kernel
theorem dX4_board_10 : decode cX4_board 10 = .ok (.iload_n 2, 1) := by decide +kernel
theorem dX4_board_11 : decode cX4_board 11 = .ok (.iconst 1, 1) := by decide +kernel
theorem dX4_board_12 : decode cX4_board 12 = .ok (.bipush 6, 2) := by decide +kernel
theorem dX4_board_14 : decode cX4_board 14 = .ok (.invokestatic 46, 3) := by decide +kernel
theorem dX4_board_17 : decode cX4_board 17 = .ok (.ifCond .eq 20, 3) := by decide +kernel
theorem dX4_board_20 : decode cX4_board 20 = .ok (.iload_n 1, 1) := by decide +kernel
theorem dX4_board_21 : decode cX4_board 21 = .ok (.iload_n 2, 1) := by decide +kernel
theorem dX4_board_22 : decode cX4_board 22 = .ok (.imul, 1) := by decide +kernel
theorem dX4_board_23 : decode cX4_board 23 = .ok (.bipush 16, 2) := by decide +kernel
theorem dX4_board_25 : decode cX4_board 25 = .ok (.if_icmp .gt 12, 3) := by decide +kernel
theorem dX4_board_28 : decode cX4_board 28 = .ok (.iload_n 3, 1) := by decide +kernel
theorem dX4_board_29 : decode cX4_board 29 = .ok (.iconst 2, 1) := by decide +kernel
theorem dX4_board_30 : decode cX4_board 30 = .ok (.iconst 4, 1) := by decide +kernel
theorem dX4_board_31 : decode cX4_board 31 = .ok (.invokestatic 46, 3) := by decide +kernel
theorem dX4_board_34 : decode cX4_board 34 = .ok (.ifCond .ne 7, 3) := by decide +kernel
theorem dX4_board_37 : decode cX4_board 37 = .ok (.sipush (-200), 3) := by decide +kernel
theorem dX4_board_40 : decode cX4_board 40 = .ok (.ireturn, 1) := by decide +kernel
theorem dX4_board_41 : decode cX4_board 41 = .ok (.aload_n 0, 1) := by decide +kernel
theorem dX4_board_42 : decode cX4_board 42 = .ok (.getfield 50, 3) := by decide +kernel
theorem dX4_board_45 : decode cX4_board 45 = .ok (.bipush 12, 2) := by decide +kernel
theorem dX4_board_47 : decode cX4_board 47 = .ok (.if_icmp .lt 7, 3) := by decide +kernel
theorem dX4_board_50 : decode cX4_board 50 = .ok (.sipush (-202), 3) := by decide +kernel
theorem dX4_board_53 : decode cX4_board 53 = .ok (.ireturn, 1) := by decide +kernel
theorem dX4_board_54 : decode cX4_board 54 = .ok (.aload_n 0, 1) := by decide +kernel
theorem dX4_board_55 : decode cX4_board 55 = .ok (.dup, 1) := by decide +kernel
theorem dX4_board_56 : decode cX4_board 56 = .ok (.getfield 50, 3) := by decide +kernel
theorem dX4_board_59 : decode cX4_board 59 = .ok (.iconst 1, 1) := by decide +kernel
theorem dX4_board_60 : decode cX4_board 60 = .ok (.iadd, 1) := by decide +kernel
theorem dX4_board_61 : decode cX4_board 61 = .ok (.putfield 50, 3) := by decide +kernel
theorem dX4_board_64 : decode cX4_board 64 = .ok (.aload_n 0, 1) := by decide +kernel
theorem dX4_board_65 : decode cX4_board 65 = .ok (.getfield 10, 3) := by decide +kernel
theorem dX4_board_68 : decode cX4_board 68 = .ok (.iload_n 1, 1) := by decide +kernel
theorem dX4_board_69 : decode cX4_board 69 = .ok (.iload_n 2, 1) := by decide +kernel
theorem dX4_board_70 : decode cX4_board 70 = .ok (.iload_n 3, 1) := by decide +kernel
theorem dX4_board_71 : decode cX4_board 71 = .ok (.iload 4, 2) := by decide +kernel
theorem dX4_board_73 : decode cX4_board 73 = .ok (.invokevirtual 16, 3) := by decide +kernel
theorem dX4_board_76 : decode cX4_board 76 = .ok (.aload_n 0, 1) := by decide +kernel
theorem dX4_board_77 : decode cX4_board 77 = .ok (.getfield 25, 3) := by decide +kernel
theorem dX4_board_80 : decode cX4_board 80 = .ok (.invokevirtual 54, 3) := by decide +kernel
theorem dX4_board_83 : decode cX4_board 83 = .ok (.aload_n 0, 1) := by decide +kernel
theorem dX4_board_84 : decode cX4_board 84 = .ok (.getfield 32, 3) := by decide +kernel
theorem dX4_board_87 : decode cX4_board 87 = .ok (.invokevirtual 57, 3) := by decide +kernel
theorem dX4_board_90 : decode cX4_board 90 = .ok (.aload_n 0, 1) := by decide +kernel
theorem dX4_board_91 : decode cX4_board 91 = .ok (.getfield 10, 3) := by decide +kernel
theorem dX4_board_94 : decode cX4_board 94 = .ok (.getfield 60, 3) := by decide +kernel
theorem dX4_board_97 : decode cX4_board 97 = .ok (.ireturn, 1) := by decide +kernel
theorem dX4_drop_0 : decode cX4_drop 0 = .ok (.aload_n 0, 1) := by decide +kernel
theorem dX4_drop_1 : decode cX4_drop 1 = .ok (.getfield 32, 3) := by decide +kernel
theorem dX4_drop_4 : decode cX4_drop 4 = .ok (.iload_n 1, 1) := by decide +kernel
theorem dX4_drop_5 : decode cX4_drop 5 = .ok (.invokevirtual 63, 3) := by decide +kernel
theorem dX4_drop_8 : decode cX4_drop 8 = .ok (.ifCond .ne 7, 3) := by decide +kernel
theorem dX4_drop_11 : decode cX4_drop 11 = .ok (.sipush (-200), 3) := by decide +kernel
theorem dX4_drop_14 : decode cX4_drop 14 = .ok (.ireturn, 1) := by decide +kernel
theorem dX4_drop_15 : decode cX4_drop 15 = .ok (.aload_n 0, 1) := by decide +kernel
theorem dX4_drop_16 : decode cX4_drop 16 = .ok (.getfield 32, 3) := by decide +kernel
theorem dX4_drop_19 : decode cX4_drop 19 = .ok (.invokevirtual 67, 3) := by decide +kernel
theorem dX4_drop_22 : decode cX4_drop 22 = .ok (.ifCond .eq 7, 3) := by decide +kernel
theorem dX4_drop_25 : decode cX4_drop 25 = .ok (.sipush (-201), 3) := by decide +kernel
theorem dX4_drop_28 : decode cX4_drop 28 = .ok (.ireturn, 1) := by decide +kernel
theorem dX4_drop_29 : decode cX4_drop 29 = .ok (.aload_n 0, 1) := by decide +kernel
theorem dX4_drop_30 : decode cX4_drop 30 = .ok (.getfield 32, 3) := by decide +kernel
theorem dX4_drop_33 : decode cX4_drop 33 = .ok (.iload_n 1, 1) := by decide +kernel
theorem dX4_drop_34 : decode cX4_drop 34 = .ok (.invokevirtual 71, 3) := by decide +kernel
theorem dX4_drop_37 : decode cX4_drop 37 = .ok (.ireturn, 1) := by decide +kernel
theorem dX4_back_0 : decode cX4_back 0 = .ok (.iload_n 1, 1) := by decide +kernel
theorem dX4_back_1 : decode cX4_back 1 = .ok (.iconst 0, 1) := by decide +kernel
theorem dX4_back_2 : decode cX4_back 2 = .ok (.aload_n 0, 1) := by decide +kernel
theorem dX4_back_3 : decode cX4_back 3 = .ok (.getfield 32, 3) := by decide +kernel
theorem dX4_back_6 : decode cX4_back 6 = .ok (.getfield 75, 3) := by decide +kernel
theorem dX4_back_9 : decode cX4_back 9 = .ok (.invokestatic 46, 3) := by decide +kernel
theorem dX4_back_12 : decode cX4_back 12 = .ok (.ifCond .ne 7, 3) := by decide +kernel
theorem dX4_back_15 : decode cX4_back 15 = .ok (.sipush (-200), 3) := by decide +kernel
theorem dX4_back_18 : decode cX4_back 18 = .ok (.ireturn, 1) := by decide +kernel
theorem dX4_back_19 : decode cX4_back 19 = .ok (.iconst 0, 1) := by decide +kernel
theorem dX4_back_20 : decode cX4_back 20 = .ok (.istore_n 2, 1) := by decide +kernel
theorem dX4_back_21 : decode cX4_back 21 = .ok (.iload_n 2, 1) := by decide +kernel
theorem dX4_back_22 : decode cX4_back 22 = .ok (.iload_n 1, 1) := by decide +kernel
theorem dX4_back_23 : decode cX4_back 23 = .ok (.if_icmp .ge 16, 3) := by decide +kernel
theorem dX4_back_26 : decode cX4_back 26 = .ok (.aload_n 0, 1) := by decide +kernel
theorem dX4_back_27 : decode cX4_back 27 = .ok (.getfield 32, 3) := by decide +kernel
theorem dX4_back_30 : decode cX4_back 30 = .ok (.invokevirtual 78, 3) := by decide +kernel
theorem dX4_back_33 : decode cX4_back 33 = .ok (.iinc 2 1, 3) := by decide +kernel
theorem dX4_back_36 : decode cX4_back 36 = .ok (.goto (-15), 3) := by decide +kernel
theorem dX4_back_39 : decode cX4_back 39 = .ok (.aload_n 0, 1) := by decide +kernel
theorem dX4_back_40 : decode cX4_back 40 = .ok (.getfield 32, 3) := by decide +kernel
theorem dX4_back_43 : decode cX4_back 43 = .ok (.getfield 75, 3) := by decide +kernel
theorem dX4_back_46 : decode cX4_back 46 = .ok (.ireturn, 1) := by decide +kernel
theorem dX4_move_0 : decode cX4_move 0 = .ok (.iload_n 1, 1) := by decide +kernel
theorem dX4_move_1 : decode cX4_move 1 = .ok (.iconst 0, 1) := by decide +kernel
theorem dX4_move_2 : decode cX4_move 2 = .ok (.aload_n 0, 1) := by decide +kernel
theorem dX4_move_3 : decode cX4_move 3 = .ok (.getfield 32, 3) := by decide +kernel
theorem dX4_move_6 : decode cX4_move 6 = .ok (.getfield 75, 3) := by decide +kernel
theorem dX4_move_9 : decode cX4_move 9 = .ok (.iconst 1, 1) := by decide +kernel
theorem dX4_move_10 : decode cX4_move 10 = .ok (.isub, 1) := by decide +kernel
theorem dX4_move_11 : decode cX4_move 11 = .ok (.invokestatic 46, 3) := by decide +kernel
theorem dX4_move_14 : decode cX4_move 14 = .ok (.ifCond .eq 15, 3) := by decide +kernel
theorem dX4_move_17 : decode cX4_move 17 = .ok (.aload_n 0, 1) := by decide +kernel
theorem dX4_move_18 : decode cX4_move 18 = .ok (.getfield 32, 3) := by decide +kernel
theorem dX4_move_21 : decode cX4_move 21 = .ok (.getfield 81, 3) := by decide +kernel
theorem dX4_move_24 : decode cX4_move 24 = .ok (.iload_n 1, 1) := by decide +kernel
theorem dX4_move_25 : decode cX4_move 25 = .ok (.iaload, 1) := by decide +kernel
theorem dX4_move_26 : decode cX4_move 26 = .ok (.goto 6, 3) := by decide +kernel
theorem dX4_move_29 : decode cX4_move 29 = .ok (.sipush (-200), 3) := by decide +kernel
theorem dX4_move_32 : decode cX4_move 32 = .ok (.ireturn, 1) := by decide +kernel
theorem dX4_at_0 : decode cX4_at 0 = .ok (.iload_n 1, 1) := by decide +kernel
theorem dX4_at_1 : decode cX4_at 1 = .ok (.iconst 0, 1) := by decide +kernel
theorem dX4_at_2 : decode cX4_at 2 = .ok (.aload_n 0, 1) := by decide +kernel
theorem dX4_at_3 : decode cX4_at 3 = .ok (.getfield 10, 3) := by decide +kernel
theorem dX4_at_6 : decode cX4_at 6 = .ok (.getfield 85, 3) := by decide +kernel
theorem dX4_at_9 : decode cX4_at 9 = .ok (.iconst 1, 1) := by decide +kernel
theorem dX4_at_10 : decode cX4_at 10 = .ok (.isub, 1) := by decide +kernel
theorem dX4_at_11 : decode cX4_at 11 = .ok (.invokestatic 46, 3) := by decide +kernel
theorem dX4_at_14 : decode cX4_at 14 = .ok (.ifCond .eq 14, 3) := by decide +kernel
theorem dX4_at_17 : decode cX4_at 17 = .ok (.aload_n 0, 1) := by decide +kernel
theorem dX4_at_18 : decode cX4_at 18 = .ok (.getfield 32, 3) := by decide +kernel
theorem dX4_at_21 : decode cX4_at 21 = .ok (.iload_n 1, 1) := by decide +kernel
theorem dX4_at_22 : decode cX4_at 22 = .ok (.invokevirtual 88, 3) := by decide +kernel
theorem dX4_at_25 : decode cX4_at 25 = .ok (.goto 6, 3) := by decide +kernel
theorem dX4_at_28 : decode cX4_at 28 = .ok (.sipush (-200), 3) := by decide +kernel
theorem dX4_at_31 : decode cX4_at 31 = .ok (.ireturn, 1) := by decide +kernel
theorem dX4_game_0 : decode cX4_game 0 = .ok (.iload_n 1, 1) := by decide +kernel
theorem dX4_game_1 : decode cX4_game 1 = .ok (.tableswitch 101 0 4 #[35, 43, 51, 59, 67], 35) := by decide +kernel
theorem dX4_game_36 : decode cX4_game 36 = .ok (.aload_n 0, 1) := by decide +kernel
theorem dX4_game_37 : decode cX4_game 37 = .ok (.getfield 32, 3) := by decide +kernel
theorem dX4_game_40 : decode cX4_game 40 = .ok (.invokevirtual 91, 3) := by decide +kernel
theorem dX4_game_43 : decode cX4_game 43 = .ok (.ireturn, 1) := by decide +kernel
theorem dX4_game_44 : decode cX4_game 44 = .ok (.aload_n 0, 1) := by decide +kernel
theorem dX4_game_45 : decode cX4_game 45 = .ok (.getfield 32, 3) := by decide +kernel
theorem dX4_game_48 : decode cX4_game 48 = .ok (.getfield 75, 3) := by decide +kernel
theorem dX4_game_51 : decode cX4_game 51 = .ok (.ireturn, 1) := by decide +kernel
theorem dX4_game_52 : decode cX4_game 52 = .ok (.aload_n 0, 1) := by decide +kernel
theorem dX4_game_53 : decode cX4_game 53 = .ok (.getfield 32, 3) := by decide +kernel
theorem dX4_game_56 : decode cX4_game 56 = .ok (.invokevirtual 95, 3) := by decide +kernel
theorem dX4_game_59 : decode cX4_game 59 = .ok (.ireturn, 1) := by decide +kernel
theorem dX4_game_60 : decode cX4_game 60 = .ok (.aload_n 0, 1) := by decide +kernel
theorem dX4_game_61 : decode cX4_game 61 = .ok (.getfield 32, 3) := by decide +kernel
theorem dX4_game_64 : decode cX4_game 64 = .ok (.invokevirtual 98, 3) := by decide +kernel
theorem dX4_game_67 : decode cX4_game 67 = .ok (.ireturn, 1) := by decide +kernel
theorem dX4_game_68 : decode cX4_game 68 = .ok (.aload_n 0, 1) := by decide +kernel
theorem dX4_game_69 : decode cX4_game 69 = .ok (.getfield 10, 3) := by decide +kernel
theorem dX4_game_72 : decode cX4_game 72 = .ok (.aload_n 0, 1) := by decide +kernel
theorem dX4_game_73 : decode cX4_game 73 = .ok (.getfield 32, 3) := by decide +kernel
theorem dX4_game_76 : decode cX4_game 76 = .ok (.getfield 101, 3) := by decide +kernel
theorem dX4_game_79 : decode cX4_game 79 = .ok (.iconst 0, 1) := by decide +kernel
theorem dX4_game_80 : decode cX4_game 80 = .ok (.iaload, 1) := by decide +kernel
theorem dX4_game_81 : decode cX4_game 81 = .ok (.invokevirtual 104, 3) := by decide +kernel
theorem dX4_game_84 : decode cX4_game 84 = .ok (.aload_n 0, 1) := by decide +kernel
theorem dX4_game_85 : decode cX4_game 85 = .ok (.getfield 10, 3) := by decide +kernel
theorem dX4_game_88 : decode cX4_game 88 = .ok (.aload_n 0, 1) := by decide +kernel
theorem dX4_game_89 : decode cX4_game 89 = .ok (.getfield 32, 3) := by decide +kernel
theorem dX4_game_92 : decode cX4_game 92 = .ok (.getfield 101, 3) := by decide +kernel
theorem dX4_game_95 : decode cX4_game 95 = .ok (.iconst 1, 1) := by decide +kernel
theorem dX4_game_96 : decode cX4_game 96 = .ok (.iaload, 1) := by decide +kernel
theorem dX4_game_97 : decode cX4_game 97 = .ok (.invokevirtual 104, 3) := by decide +kernel
theorem dX4_game_100 : decode cX4_game 100 = .ok (.iadd, 1) := by decide +kernel
theorem dX4_game_101 : decode cX4_game 101 = .ok (.ireturn, 1) := by decide +kernel
theorem dX4_game_102 : decode cX4_game 102 = .ok (.sipush (-200), 3) := by decide +kernel
theorem dX4_game_105 : decode cX4_game 105 = .ok (.ireturn, 1) := by decide +kernel
theorem dX4_won_0 : decode cX4_won 0 = .ok (.aload_n 0, 1) := by decide +kernel
theorem dX4_won_1 : decode cX4_won 1 = .ok (.getfield 32, 3) := by decide +kernel
theorem dX4_won_4 : decode cX4_won 4 = .ok (.invokevirtual 95, 3) := by decide +kernel
theorem dX4_won_7 : decode cX4_won 7 = .ok (.iconst 1, 1) := by decide +kernel
theorem dX4_won_8 : decode cX4_won 8 = .ok (.if_icmp .ne 20, 3) := by decide +kernel
theorem dX4_won_11 : decode cX4_won 11 = .ok (.iload_n 1, 1) := by decide +kernel
theorem dX4_won_12 : decode cX4_won 12 = .ok (.iconst 0, 1) := by decide +kernel
theorem dX4_won_13 : decode cX4_won 13 = .ok (.aload_n 0, 1) := by decide +kernel
theorem dX4_won_14 : decode cX4_won 14 = .ok (.getfield 10, 3) := by decide +kernel
theorem dX4_won_17 : decode cX4_won 17 = .ok (.getfield 107, 3) := by decide +kernel
theorem dX4_won_20 : decode cX4_won 20 = .ok (.iconst 1, 1) := by decide +kernel
theorem dX4_won_21 : decode cX4_won 21 = .ok (.isub, 1) := by decide +kernel
theorem dX4_won_22 : decode cX4_won 22 = .ok (.invokestatic 46, 3) := by decide +kernel
theorem dX4_won_25 : decode cX4_won 25 = .ok (.ifCond .ne 7, 3) := by decide +kernel
theorem dX4_won_28 : decode cX4_won 28 = .ok (.sipush (-200), 3) := by decide +kernel
theorem dX4_won_31 : decode cX4_won 31 = .ok (.ireturn, 1) := by decide +kernel
theorem dX4_won_32 : decode cX4_won 32 = .ok (.aload_n 0, 1) := by decide +kernel
theorem dX4_won_33 : decode cX4_won 33 = .ok (.getfield 10, 3) := by decide +kernel
theorem dX4_won_36 : decode cX4_won 36 = .ok (.aload_n 0, 1) := by decide +kernel
theorem dX4_won_37 : decode cX4_won 37 = .ok (.getfield 32, 3) := by decide +kernel
theorem dX4_won_40 : decode cX4_won 40 = .ok (.getfield 101, 3) := by decide +kernel
theorem dX4_won_43 : decode cX4_won 43 = .ok (.iconst 1, 1) := by decide +kernel
theorem dX4_won_44 : decode cX4_won 44 = .ok (.aload_n 0, 1) := by decide +kernel
theorem dX4_won_45 : decode cX4_won 45 = .ok (.getfield 32, 3) := by decide +kernel
theorem dX4_won_48 : decode cX4_won 48 = .ok (.invokevirtual 91, 3) := by decide +kernel
theorem dX4_won_51 : decode cX4_won 51 = .ok (.isub, 1) := by decide +kernel
theorem dX4_won_52 : decode cX4_won 52 = .ok (.iaload, 1) := by decide +kernel
theorem dX4_won_53 : decode cX4_won 53 = .ok (.invokevirtual 110, 3) := by decide +kernel
theorem dX4_won_56 : decode cX4_won 56 = .ok (.iload_n 1, 1) := by decide +kernel
theorem dX4_won_57 : decode cX4_won 57 = .ok (.invokestatic 113, 3) := by decide +kernel
theorem dX4_won_60 : decode cX4_won 60 = .ok (.ireturn, 1) := by decide +kernel
theorem dX4_worth_0 : decode cX4_worth 0 = .ok (.aload_n 0, 1) := by decide +kernel
theorem dX4_worth_1 : decode cX4_worth 1 = .ok (.getfield 32, 3) := by decide +kernel
theorem dX4_worth_4 : decode cX4_worth 4 = .ok (.invokevirtual 67, 3) := by decide +kernel
theorem dX4_worth_7 : decode cX4_worth 7 = .ok (.ifCond .eq 7, 3) := by decide +kernel
theorem dX4_worth_10 : decode cX4_worth 10 = .ok (.sipush (-201), 3) := by decide +kernel
theorem dX4_worth_13 : decode cX4_worth 13 = .ok (.ireturn, 1) := by decide +kernel
theorem dX4_worth_14 : decode cX4_worth 14 = .ok (.aload_n 0, 1) := by decide +kernel
theorem dX4_worth_15 : decode cX4_worth 15 = .ok (.getfield 25, 3) := by decide +kernel
theorem dX4_worth_18 : decode cX4_worth 18 = .ok (.aload_n 0, 1) := by decide +kernel
theorem dX4_worth_19 : decode cX4_worth 19 = .ok (.getfield 32, 3) := by decide +kernel
theorem dX4_worth_22 : decode cX4_worth 22 = .ok (.invokevirtual 117, 3) := by decide +kernel
theorem dX4_worth_25 : decode cX4_worth 25 = .ok (.aload_n 0, 1) := by decide +kernel
theorem dX4_worth_26 : decode cX4_worth 26 = .ok (.getfield 25, 3) := by decide +kernel
theorem dX4_worth_29 : decode cX4_worth 29 = .ok (.invokevirtual 121, 3) := by decide +kernel
theorem dX4_worth_32 : decode cX4_worth 32 = .ok (.ireturn, 1) := by decide +kernel
theorem dX4_worthOf_0 : decode cX4_worthOf 0 = .ok (.aload_n 0, 1) := by decide +kernel
theorem dX4_worthOf_1 : decode cX4_worthOf 1 = .ok (.getfield 32, 3) := by decide +kernel
theorem dX4_worthOf_4 : decode cX4_worthOf 4 = .ok (.invokevirtual 67, 3) := by decide +kernel
theorem dX4_worthOf_7 : decode cX4_worthOf 7 = .ok (.ifCond .eq 7, 3) := by decide +kernel
theorem dX4_worthOf_10 : decode cX4_worthOf 10 = .ok (.sipush (-201), 3) := by decide +kernel
theorem dX4_worthOf_13 : decode cX4_worthOf 13 = .ok (.ireturn, 1) := by decide +kernel
theorem dX4_worthOf_14 : decode cX4_worthOf 14 = .ok (.aload_n 0, 1) := by decide +kernel
theorem dX4_worthOf_15 : decode cX4_worthOf 15 = .ok (.getfield 32, 3) := by decide +kernel
theorem dX4_worthOf_18 : decode cX4_worthOf 18 = .ok (.iload_n 1, 1) := by decide +kernel
theorem dX4_worthOf_19 : decode cX4_worthOf 19 = .ok (.invokevirtual 63, 3) := by decide +kernel
theorem dX4_worthOf_22 : decode cX4_worthOf 22 = .ok (.ifCond .ne 7, 3) := by decide +kernel
theorem dX4_worthOf_25 : decode cX4_worthOf 25 = .ok (.sipush (-200), 3) := by decide +kernel
theorem dX4_worthOf_28 : decode cX4_worthOf 28 = .ok (.ireturn, 1) := by decide +kernel
theorem dX4_worthOf_29 : decode cX4_worthOf 29 = .ok (.aload_n 0, 1) := by decide +kernel
theorem dX4_worthOf_30 : decode cX4_worthOf 30 = .ok (.getfield 25, 3) := by decide +kernel
theorem dX4_worthOf_33 : decode cX4_worthOf 33 = .ok (.aload_n 0, 1) := by decide +kernel
theorem dX4_worthOf_34 : decode cX4_worthOf 34 = .ok (.getfield 32, 3) := by decide +kernel
theorem dX4_worthOf_37 : decode cX4_worthOf 37 = .ok (.invokevirtual 117, 3) := by decide +kernel
theorem dX4_worthOf_40 : decode cX4_worthOf 40 = .ok (.aload_n 0, 1) := by decide +kernel
theorem dX4_worthOf_41 : decode cX4_worthOf 41 = .ok (.getfield 25, 3) := by decide +kernel
theorem dX4_worthOf_44 : decode cX4_worthOf 44 = .ok (.iload_n 1, 1) := by decide +kernel
theorem dX4_worthOf_45 : decode cX4_worthOf 45 = .ok (.invokevirtual 124, 3) := by decide +kernel
theorem dX4_worthOf_48 : decode cX4_worthOf 48 = .ok (.ireturn, 1) := by decide +kernel
theorem dX4_best_0 : decode cX4_best 0 = .ok (.aload_n 0, 1) := by decide +kernel
theorem dX4_best_1 : decode cX4_best 1 = .ok (.getfield 32, 3) := by decide +kernel
theorem dX4_best_4 : decode cX4_best 4 = .ok (.invokevirtual 67, 3) := by decide +kernel
theorem dX4_best_7 : decode cX4_best 7 = .ok (.ifCond .eq 9, 3) := by decide +kernel
theorem dX4_best_10 : decode cX4_best 10 = .ok (.sipush (-201), 3) := by decide +kernel
theorem dX4_best_13 : decode cX4_best 13 = .ok (.goto 7, 3) := by decide +kernel
theorem dX4_best_16 : decode cX4_best 16 = .ok (.aload_n 0, 1) := by decide +kernel
theorem dX4_best_17 : decode cX4_best 17 = .ok (.invokevirtual 127, 3) := by decide +kernel
theorem dX4_best_20 : decode cX4_best 20 = .ok (.ireturn, 1) := by decide +kernel
theorem dX4_as_0 : decode cX4_as 0 = .ok (.aload_n 0, 1) := by decide +kernel
theorem dX4_as_1 : decode cX4_as 1 = .ok (.getfield 32, 3) := by decide +kernel
theorem dX4_as_4 : decode cX4_as 4 = .ok (.invokevirtual 67, 3) := by decide +kernel
theorem dX4_as_7 : decode cX4_as 7 = .ok (.ifCond .eq 7, 3) := by decide +kernel
theorem dX4_as_10 : decode cX4_as 10 = .ok (.sipush (-201), 3) := by decide +kernel
theorem dX4_as_13 : decode cX4_as 13 = .ok (.ireturn, 1) := by decide +kernel
theorem dX4_as_14 : decode cX4_as 14 = .ok (.aload_n 0, 1) := by decide +kernel
theorem dX4_as_15 : decode cX4_as 15 = .ok (.getfield 25, 3) := by decide +kernel
theorem dX4_as_18 : decode cX4_as 18 = .ok (.aload_n 0, 1) := by decide +kernel
theorem dX4_as_19 : decode cX4_as 19 = .ok (.getfield 32, 3) := by decide +kernel
theorem dX4_as_22 : decode cX4_as 22 = .ok (.invokevirtual 117, 3) := by decide +kernel
theorem dX4_as_25 : decode cX4_as 25 = .ok (.aload_n 0, 1) := by decide +kernel
theorem dX4_as_26 : decode cX4_as 26 = .ok (.getfield 25, 3) := by decide +kernel
theorem dX4_as_29 : decode cX4_as 29 = .ok (.invokevirtual 121, 3) := by decide +kernel
theorem dX4_as_32 : decode cX4_as 32 = .ok (.istore_n 1, 1) := by decide +kernel
theorem dX4_as_33 : decode cX4_as 33 = .ok (.iconst 0, 1) := by decide +kernel
theorem dX4_as_34 : decode cX4_as 34 = .ok (.istore_n 2, 1) := by decide +kernel
theorem dX4_as_35 : decode cX4_as 35 = .ok (.iconst 0, 1) := by decide +kernel
theorem dX4_as_36 : decode cX4_as 36 = .ok (.istore_n 3, 1) := by decide +kernel
theorem dX4_as_37 : decode cX4_as 37 = .ok (.iload_n 3, 1) := by decide +kernel
theorem dX4_as_38 : decode cX4_as 38 = .ok (.aload_n 0, 1) := by decide +kernel
theorem dX4_as_39 : decode cX4_as 39 = .ok (.getfield 10, 3) := by decide +kernel
theorem dX4_as_42 : decode cX4_as 42 = .ok (.getfield 130, 3) := by decide +kernel
theorem dX4_as_45 : decode cX4_as 45 = .ok (.if_icmp .ge 35, 3) := by decide +kernel
theorem dX4_as_48 : decode cX4_as 48 = .ok (.aload_n 0, 1) := by decide +kernel
theorem dX4_as_49 : decode cX4_as 49 = .ok (.getfield 32, 3) := by decide +kernel
theorem dX4_as_52 : decode cX4_as 52 = .ok (.iload_n 3, 1) := by decide +kernel
theorem dX4_as_53 : decode cX4_as 53 = .ok (.invokevirtual 63, 3) := by decide +kernel
theorem dX4_as_56 : decode cX4_as 56 = .ok (.ifCond .eq 18, 3) := by decide +kernel
theorem dX4_as_59 : decode cX4_as 59 = .ok (.aload_n 0, 1) := by decide +kernel
theorem dX4_as_60 : decode cX4_as 60 = .ok (.getfield 25, 3) := by decide +kernel
theorem dX4_as_63 : decode cX4_as 63 = .ok (.iload_n 3, 1) := by decide +kernel
theorem dX4_as_64 : decode cX4_as 64 = .ok (.invokevirtual 124, 3) := by decide +kernel
theorem dX4_as_67 : decode cX4_as 67 = .ok (.iload_n 1, 1) := by decide +kernel
theorem dX4_as_68 : decode cX4_as 68 = .ok (.if_icmp .ne 6, 3) := by decide +kernel
theorem dX4_as_71 : decode cX4_as 71 = .ok (.iinc 2 1, 3) := by decide +kernel
theorem dX4_as_74 : decode cX4_as 74 = .ok (.iinc 3 1, 3) := by decide +kernel
theorem dX4_as_77 : decode cX4_as 77 = .ok (.goto (-40), 3) := by decide +kernel
theorem dX4_as_80 : decode cX4_as 80 = .ok (.iload_n 2, 1) := by decide +kernel
theorem dX4_as_81 : decode cX4_as 81 = .ok (.ireturn, 1) := by decide +kernel
theorem dX4_play_0 : decode cX4_play 0 = .ok (.aload_n 0, 1) := by decide +kernel
theorem dX4_play_1 : decode cX4_play 1 = .ok (.getfield 32, 3) := by decide +kernel
theorem dX4_play_4 : decode cX4_play 4 = .ok (.invokevirtual 67, 3) := by decide +kernel
theorem dX4_play_7 : decode cX4_play 7 = .ok (.ifCond .eq 7, 3) := by decide +kernel
theorem dX4_play_10 : decode cX4_play 10 = .ok (.sipush (-201), 3) := by decide +kernel
theorem dX4_play_13 : decode cX4_play 13 = .ok (.ireturn, 1) := by decide +kernel
theorem dX4_play_14 : decode cX4_play 14 = .ok (.aload_n 0, 1) := by decide +kernel
theorem dX4_play_15 : decode cX4_play 15 = .ok (.getfield 32, 3) := by decide +kernel
theorem dX4_play_18 : decode cX4_play 18 = .ok (.getfield 75, 3) := by decide +kernel
theorem dX4_play_21 : decode cX4_play 21 = .ok (.istore_n 1, 1) := by decide +kernel
theorem dX4_play_22 : decode cX4_play 22 = .ok (.iload_n 1, 1) := by decide +kernel
theorem dX4_play_23 : decode cX4_play 23 = .ok (.istore_n 2, 1) := by decide +kernel
theorem dX4_play_24 : decode cX4_play 24 = .ok (.iload_n 2, 1) := by decide +kernel
theorem dX4_play_25 : decode cX4_play 25 = .ok (.aload_n 0, 1) := by decide +kernel
theorem dX4_play_26 : decode cX4_play 26 = .ok (.getfield 10, 3) := by decide +kernel
theorem dX4_play_29 : decode cX4_play 29 = .ok (.getfield 85, 3) := by decide +kernel
theorem dX4_play_32 : decode cX4_play 32 = .ok (.if_icmp .ge 31, 3) := by decide +kernel
theorem dX4_play_35 : decode cX4_play 35 = .ok (.aload_n 0, 1) := by decide +kernel
theorem dX4_play_36 : decode cX4_play 36 = .ok (.getfield 32, 3) := by decide +kernel
theorem dX4_play_39 : decode cX4_play 39 = .ok (.invokevirtual 67, 3) := by decide +kernel
theorem dX4_play_42 : decode cX4_play 42 = .ok (.ifCond .ne 21, 3) := by decide +kernel
theorem dX4_play_45 : decode cX4_play 45 = .ok (.aload_n 0, 1) := by decide +kernel
theorem dX4_play_46 : decode cX4_play 46 = .ok (.getfield 32, 3) := by decide +kernel
theorem dX4_play_49 : decode cX4_play 49 = .ok (.aload_n 0, 1) := by decide +kernel
theorem dX4_play_50 : decode cX4_play 50 = .ok (.invokevirtual 127, 3) := by decide +kernel
theorem dX4_play_53 : decode cX4_play 53 = .ok (.invokevirtual 71, 3) := by decide +kernel
theorem dX4_play_56 : decode cX4_play 56 = .ok (.pop, 1) := by decide +kernel
theorem dX4_play_57 : decode cX4_play 57 = .ok (.iinc 2 1, 3) := by decide +kernel
theorem dX4_play_60 : decode cX4_play 60 = .ok (.goto (-36), 3) := by decide +kernel
theorem dX4_play_63 : decode cX4_play 63 = .ok (.aload_n 0, 1) := by decide +kernel
theorem dX4_play_64 : decode cX4_play 64 = .ok (.getfield 32, 3) := by decide +kernel
theorem dX4_play_67 : decode cX4_play 67 = .ok (.getfield 75, 3) := by decide +kernel
theorem dX4_play_70 : decode cX4_play 70 = .ok (.iload_n 1, 1) := by decide +kernel
theorem dX4_play_71 : decode cX4_play 71 = .ok (.isub, 1) := by decide +kernel
theorem dX4_play_72 : decode cX4_play 72 = .ok (.ireturn, 1) := by decide +kernel
theorem dX4_positions_0 : decode cX4_positions 0 = .ok (.iload_n 1, 1) := by decide +kernel
theorem dX4_positions_1 : decode cX4_positions 1 = .ok (.iconst 0, 1) := by decide +kernel
theorem dX4_positions_2 : decode cX4_positions 2 = .ok (.aload_n 0, 1) := by decide +kernel
theorem dX4_positions_3 : decode cX4_positions 3 = .ok (.getfield 10, 3) := by decide +kernel
theorem dX4_positions_6 : decode cX4_positions 6 = .ok (.getfield 85, 3) := by decide +kernel
theorem dX4_positions_9 : decode cX4_positions 9 = .ok (.invokestatic 46, 3) := by decide +kernel
theorem dX4_positions_12 : decode cX4_positions 12 = .ok (.ifCond .eq 15, 3) := by decide +kernel
theorem dX4_positions_15 : decode cX4_positions 15 = .ok (.aload_n 0, 1) := by decide +kernel
theorem dX4_positions_16 : decode cX4_positions 16 = .ok (.getfield 25, 3) := by decide +kernel
theorem dX4_positions_19 : decode cX4_positions 19 = .ok (.iconst 0, 1) := by decide +kernel
theorem dX4_positions_20 : decode cX4_positions 20 = .ok (.iload_n 1, 1) := by decide +kernel
theorem dX4_positions_21 : decode cX4_positions 21 = .ok (.invokevirtual 133, 3) := by decide +kernel
theorem dX4_positions_24 : decode cX4_positions 24 = .ok (.goto 6, 3) := by decide +kernel
theorem dX4_positions_27 : decode cX4_positions 27 = .ok (.sipush (-200), 3) := by decide +kernel
theorem dX4_positions_30 : decode cX4_positions 30 = .ok (.ireturn, 1) := by decide +kernel
theorem dX4_wins_0 : decode cX4_wins 0 = .ok (.iload_n 1, 1) := by decide +kernel
theorem dX4_wins_1 : decode cX4_wins 1 = .ok (.iconst 0, 1) := by decide +kernel
theorem dX4_wins_2 : decode cX4_wins 2 = .ok (.aload_n 0, 1) := by decide +kernel
theorem dX4_wins_3 : decode cX4_wins 3 = .ok (.getfield 10, 3) := by decide +kernel
theorem dX4_wins_6 : decode cX4_wins 6 = .ok (.getfield 85, 3) := by decide +kernel
theorem dX4_wins_9 : decode cX4_wins 9 = .ok (.invokestatic 46, 3) := by decide +kernel
theorem dX4_wins_12 : decode cX4_wins 12 = .ok (.ifCond .eq 15, 3) := by decide +kernel
theorem dX4_wins_15 : decode cX4_wins 15 = .ok (.aload_n 0, 1) := by decide +kernel
theorem dX4_wins_16 : decode cX4_wins 16 = .ok (.getfield 25, 3) := by decide +kernel
theorem dX4_wins_19 : decode cX4_wins 19 = .ok (.iconst 1, 1) := by decide +kernel
theorem dX4_wins_20 : decode cX4_wins 20 = .ok (.iload_n 1, 1) := by decide +kernel
theorem dX4_wins_21 : decode cX4_wins 21 = .ok (.invokevirtual 133, 3) := by decide +kernel
theorem dX4_wins_24 : decode cX4_wins 24 = .ok (.goto 6, 3) := by decide +kernel
theorem dX4_wins_27 : decode cX4_wins 27 = .ok (.sipush (-200), 3) := by decide +kernel
theorem dX4_wins_30 : decode cX4_wins 30 = .ok (.ireturn, 1) := by decide +kernel
theorem dX4_share_0 : decode cX4_share 0 = .ok (.iload_n 1, 1) := by decide +kernel
theorem dX4_share_1 : decode cX4_share 1 = .ok (.iconst 0, 1) := by decide +kernel
theorem dX4_share_2 : decode cX4_share 2 = .ok (.aload_n 0, 1) := by decide +kernel
theorem dX4_share_3 : decode cX4_share 3 = .ok (.getfield 10, 3) := by decide +kernel
theorem dX4_share_6 : decode cX4_share 6 = .ok (.getfield 85, 3) := by decide +kernel
theorem dX4_share_9 : decode cX4_share 9 = .ok (.invokestatic 46, 3) := by decide +kernel
theorem dX4_share_12 : decode cX4_share 12 = .ok (.ifCond .eq 12, 3) := by decide +kernel
theorem dX4_share_15 : decode cX4_share 15 = .ok (.iload_n 2, 1) := by decide +kernel
theorem dX4_share_16 : decode cX4_share 16 = .ok (.iconst (-1), 1) := by decide +kernel
theorem dX4_share_17 : decode cX4_share 17 = .ok (.iconst 1, 1) := by decide +kernel
theorem dX4_share_18 : decode cX4_share 18 = .ok (.invokestatic 46, 3) := by decide +kernel
theorem dX4_share_21 : decode cX4_share 21 = .ok (.ifCond .ne 7, 3) := by decide +kernel
theorem dX4_share_24 : decode cX4_share 24 = .ok (.sipush (-200), 3) := by decide +kernel
theorem dX4_share_27 : decode cX4_share 27 = .ok (.ireturn, 1) := by decide +kernel
theorem dX4_share_28 : decode cX4_share 28 = .ok (.aload_n 0, 1) := by decide +kernel
theorem dX4_share_29 : decode cX4_share 29 = .ok (.getfield 25, 3) := by decide +kernel
theorem dX4_share_32 : decode cX4_share 32 = .ok (.iconst 3, 1) := by decide +kernel
theorem dX4_share_33 : decode cX4_share 33 = .ok (.iload_n 2, 1) := by decide +kernel
theorem dX4_share_34 : decode cX4_share 34 = .ok (.iadd, 1) := by decide +kernel
theorem dX4_share_35 : decode cX4_share 35 = .ok (.iload_n 1, 1) := by decide +kernel
theorem dX4_share_36 : decode cX4_share 36 = .ok (.invokevirtual 133, 3) := by decide +kernel
theorem dX4_share_39 : decode cX4_share 39 = .ok (.ireturn, 1) := by decide +kernel
theorem dX4_even_0 : decode cX4_even 0 = .ok (.iconst 0, 1) := by decide +kernel
theorem dX4_even_1 : decode cX4_even 1 = .ok (.istore_n 1, 1) := by decide +kernel
theorem dX4_even_2 : decode cX4_even 2 = .ok (.iload_n 1, 1) := by decide +kernel
theorem dX4_even_3 : decode cX4_even 3 = .ok (.aload_n 0, 1) := by decide +kernel
theorem dX4_even_4 : decode cX4_even 4 = .ok (.getfield 10, 3) := by decide +kernel
theorem dX4_even_7 : decode cX4_even 7 = .ok (.getfield 85, 3) := by decide +kernel
theorem dX4_even_10 : decode cX4_even 10 = .ok (.if_icmp .ge 37, 3) := by decide +kernel
theorem dX4_even_13 : decode cX4_even 13 = .ok (.aload_n 0, 1) := by decide +kernel
theorem dX4_even_14 : decode cX4_even 14 = .ok (.getfield 32, 3) := by decide +kernel
theorem dX4_even_17 : decode cX4_even 17 = .ok (.iload_n 1, 1) := by decide +kernel
theorem dX4_even_18 : decode cX4_even 18 = .ok (.invokevirtual 88, 3) := by decide +kernel
theorem dX4_even_21 : decode cX4_even 21 = .ok (.aload_n 0, 1) := by decide +kernel
theorem dX4_even_22 : decode cX4_even 22 = .ok (.getfield 32, 3) := by decide +kernel
theorem dX4_even_25 : decode cX4_even 25 = .ok (.aload_n 0, 1) := by decide +kernel
theorem dX4_even_26 : decode cX4_even 26 = .ok (.getfield 10, 3) := by decide +kernel
theorem dX4_even_29 : decode cX4_even 29 = .ok (.iload_n 1, 1) := by decide +kernel
theorem dX4_even_30 : decode cX4_even 30 = .ok (.invokevirtual 136, 3) := by decide +kernel
theorem dX4_even_33 : decode cX4_even 33 = .ok (.invokevirtual 88, 3) := by decide +kernel
theorem dX4_even_36 : decode cX4_even 36 = .ok (.if_icmp .eq 5, 3) := by decide +kernel
theorem dX4_even_39 : decode cX4_even 39 = .ok (.iconst 0, 1) := by decide +kernel
theorem dX4_even_40 : decode cX4_even 40 = .ok (.ireturn, 1) := by decide +kernel
theorem dX4_even_41 : decode cX4_even 41 = .ok (.iinc 1 1, 3) := by decide +kernel
theorem dX4_even_44 : decode cX4_even 44 = .ok (.goto (-42), 3) := by decide +kernel
theorem dX4_even_47 : decode cX4_even 47 = .ok (.iconst 1, 1) := by decide +kernel
theorem dX4_even_48 : decode cX4_even 48 = .ok (.ireturn, 1) := by decide +kernel
theorem dX4_threats_0 : decode cX4_threats 0 = .ok (.iload_n 1, 1) := by decide +kernel
theorem dX4_threats_1 : decode cX4_threats 1 = .ok (.iconst 0, 1) := by decide +kernel
theorem dX4_threats_2 : decode cX4_threats 2 = .ok (.iconst 1, 1) := by decide +kernel
theorem dX4_threats_3 : decode cX4_threats 3 = .ok (.invokestatic 46, 3) := by decide +kernel
theorem dX4_threats_6 : decode cX4_threats 6 = .ok (.ifCond .eq 17, 3) := by decide +kernel
theorem dX4_threats_9 : decode cX4_threats 9 = .ok (.aload_n 0, 1) := by decide +kernel
theorem dX4_threats_10 : decode cX4_threats 10 = .ok (.getfield 32, 3) := by decide +kernel
theorem dX4_threats_13 : decode cX4_threats 13 = .ok (.iload_n 1, 1) := by decide +kernel
theorem dX4_threats_14 : decode cX4_threats 14 = .ok (.invokevirtual 139, 3) := by decide +kernel
theorem dX4_threats_17 : decode cX4_threats 17 = .ok (.invokestatic 142, 3) := by decide +kernel
theorem dX4_threats_20 : decode cX4_threats 20 = .ok (.goto 6, 3) := by decide +kernel
theorem dX4_threats_23 : decode cX4_threats 23 = .ok (.sipush (-200), 3) := by decide +kernel
theorem dX4_threats_26 : decode cX4_threats 26 = .ok (.ireturn, 1) := by decide +kernel
theorem dX4_threat_0 : decode cX4_threat 0 = .ok (.iload_n 1, 1) := by decide +kernel
theorem dX4_threat_1 : decode cX4_threat 1 = .ok (.iconst 0, 1) := by decide +kernel
theorem dX4_threat_2 : decode cX4_threat 2 = .ok (.iconst 1, 1) := by decide +kernel
theorem dX4_threat_3 : decode cX4_threat 3 = .ok (.invokestatic 46, 3) := by decide +kernel
theorem dX4_threat_6 : decode cX4_threat 6 = .ok (.ifCond .ne 7, 3) := by decide +kernel
theorem dX4_threat_9 : decode cX4_threat 9 = .ok (.sipush (-200), 3) := by decide +kernel
theorem dX4_threat_12 : decode cX4_threat 12 = .ok (.ireturn, 1) := by decide +kernel
theorem dX4_threat_13 : decode cX4_threat 13 = .ok (.aload_n 0, 1) := by decide +kernel
theorem dX4_threat_14 : decode cX4_threat 14 = .ok (.getfield 32, 3) := by decide +kernel
theorem dX4_threat_17 : decode cX4_threat 17 = .ok (.iload_n 1, 1) := by decide +kernel
theorem dX4_threat_18 : decode cX4_threat 18 = .ok (.invokevirtual 139, 3) := by decide +kernel
theorem dX4_threat_21 : decode cX4_threat 21 = .ok (.istore_n 3, 1) := by decide +kernel
theorem dX4_threat_22 : decode cX4_threat 22 = .ok (.iload_n 2, 1) := by decide +kernel
theorem dX4_threat_23 : decode cX4_threat 23 = .ok (.iconst 0, 1) := by decide +kernel
theorem dX4_threat_24 : decode cX4_threat 24 = .ok (.iload_n 3, 1) := by decide +kernel
theorem dX4_threat_25 : decode cX4_threat 25 = .ok (.invokestatic 142, 3) := by decide +kernel
theorem dX4_threat_28 : decode cX4_threat 28 = .ok (.iconst 1, 1) := by decide +kernel
theorem dX4_threat_29 : decode cX4_threat 29 = .ok (.isub, 1) := by decide +kernel
theorem dX4_threat_30 : decode cX4_threat 30 = .ok (.invokestatic 46, 3) := by decide +kernel
theorem dX4_threat_33 : decode cX4_threat 33 = .ok (.ifCond .eq 11, 3) := by decide +kernel
theorem dX4_threat_36 : decode cX4_threat 36 = .ok (.iload_n 3, 1) := by decide +kernel
theorem dX4_threat_37 : decode cX4_threat 37 = .ok (.iload_n 2, 1) := by decide +kernel
theorem dX4_threat_38 : decode cX4_threat 38 = .ok (.invokestatic 113, 3) := by decide +kernel
theorem dX4_threat_41 : decode cX4_threat 41 = .ok (.goto 6, 3) := by decide +kernel
theorem dX4_threat_44 : decode cX4_threat 44 = .ok (.sipush (-200), 3) := by decide +kernel
theorem dX4_threat_47 : decode cX4_threat 47 = .ok (.ireturn, 1) := by decide +kernel
theorem dX4_waiting_0 : decode cX4_waiting 0 = .ok (.aload_n 0, 1) := by decide +kernel
theorem dX4_waiting_1 : decode cX4_waiting 1 = .ok (.getfield 32, 3) := by decide +kernel
theorem dX4_waiting_4 : decode cX4_waiting 4 = .ok (.invokevirtual 67, 3) := by decide +kernel
theorem dX4_waiting_7 : decode cX4_waiting 7 = .ok (.ifCond .eq 7, 3) := by decide +kernel
theorem dX4_waiting_10 : decode cX4_waiting 10 = .ok (.sipush (-201), 3) := by decide +kernel
theorem dX4_waiting_13 : decode cX4_waiting 13 = .ok (.ireturn, 1) := by decide +kernel
theorem dX4_waiting_14 : decode cX4_waiting 14 = .ok (.aload_n 0, 1) := by decide +kernel
theorem dX4_waiting_15 : decode cX4_waiting 15 = .ok (.getfield 36, 3) := by decide +kernel
theorem dX4_waiting_18 : decode cX4_waiting 18 = .ok (.aload_n 0, 1) := by decide +kernel
theorem dX4_waiting_19 : decode cX4_waiting 19 = .ok (.getfield 32, 3) := by decide +kernel
theorem dX4_waiting_22 : decode cX4_waiting 22 = .ok (.invokevirtual 147, 3) := by decide +kernel
theorem dX4_waiting_25 : decode cX4_waiting 25 = .ok (.aload_n 0, 1) := by decide +kernel
theorem dX4_waiting_26 : decode cX4_waiting 26 = .ok (.getfield 36, 3) := by decide +kernel
theorem dX4_waiting_29 : decode cX4_waiting 29 = .ok (.getfield 75, 3) := by decide +kernel
theorem dX4_waiting_32 : decode cX4_waiting 32 = .ok (.istore_n 1, 1) := by decide +kernel
theorem dX4_waiting_33 : decode cX4_waiting 33 = .ok (.iload_n 1, 1) := by decide +kernel
theorem dX4_waiting_34 : decode cX4_waiting 34 = .ok (.aload_n 0, 1) := by decide +kernel
theorem dX4_waiting_35 : decode cX4_waiting 35 = .ok (.getfield 10, 3) := by decide +kernel
theorem dX4_waiting_38 : decode cX4_waiting 38 = .ok (.getfield 85, 3) := by decide +kernel
theorem dX4_waiting_41 : decode cX4_waiting 41 = .ok (.if_icmp .ge 34, 3) := by decide +kernel
theorem dX4_waiting_44 : decode cX4_waiting 44 = .ok (.aload_n 0, 1) := by decide +kernel
theorem dX4_waiting_45 : decode cX4_waiting 45 = .ok (.getfield 36, 3) := by decide +kernel
theorem dX4_waiting_48 : decode cX4_waiting 48 = .ok (.invokevirtual 67, 3) := by decide +kernel
theorem dX4_waiting_51 : decode cX4_waiting 51 = .ok (.ifCond .ne 24, 3) := by decide +kernel
theorem dX4_waiting_54 : decode cX4_waiting 54 = .ok (.aload_n 0, 1) := by decide +kernel
theorem dX4_waiting_55 : decode cX4_waiting 55 = .ok (.getfield 36, 3) := by decide +kernel
theorem dX4_waiting_58 : decode cX4_waiting 58 = .ok (.aload_n 0, 1) := by decide +kernel
theorem dX4_waiting_59 : decode cX4_waiting 59 = .ok (.getfield 36, 3) := by decide +kernel
theorem dX4_waiting_62 : decode cX4_waiting 62 = .ok (.invokevirtual 150, 3) := by decide +kernel
theorem dX4_waiting_65 : decode cX4_waiting 65 = .ok (.invokevirtual 71, 3) := by decide +kernel
theorem dX4_waiting_68 : decode cX4_waiting 68 = .ok (.pop, 1) := by decide +kernel
theorem dX4_waiting_69 : decode cX4_waiting 69 = .ok (.iinc 1 1, 3) := by decide +kernel
theorem dX4_waiting_72 : decode cX4_waiting 72 = .ok (.goto (-39), 3) := by decide +kernel
theorem dX4_waiting_75 : decode cX4_waiting 75 = .ok (.aload_n 0, 1) := by decide +kernel
theorem dX4_waiting_76 : decode cX4_waiting 76 = .ok (.getfield 36, 3) := by decide +kernel
theorem dX4_waiting_79 : decode cX4_waiting 79 = .ok (.invokevirtual 95, 3) := by decide +kernel
theorem dX4_waiting_82 : decode cX4_waiting 82 = .ok (.iconst 1, 1) := by decide +kernel
theorem dX4_waiting_83 : decode cX4_waiting 83 = .ok (.if_icmp .eq 5, 3) := by decide +kernel
theorem dX4_waiting_86 : decode cX4_waiting 86 = .ok (.iconst 0, 1) := by decide +kernel
theorem dX4_waiting_87 : decode cX4_waiting 87 = .ok (.ireturn, 1) := by decide +kernel
theorem dX4_waiting_88 : decode cX4_waiting 88 = .ok (.aload_n 0, 1) := by decide +kernel
theorem dX4_waiting_89 : decode cX4_waiting 89 = .ok (.getfield 36, 3) := by decide +kernel
theorem dX4_waiting_92 : decode cX4_waiting 92 = .ok (.invokevirtual 91, 3) := by decide +kernel
theorem dX4_waiting_95 : decode cX4_waiting 95 = .ok (.iconst 1, 1) := by decide +kernel
theorem dX4_waiting_96 : decode cX4_waiting 96 = .ok (.if_icmp .ne 7, 3) := by decide +kernel
theorem dX4_waiting_99 : decode cX4_waiting 99 = .ok (.iconst 1, 1) := by decide +kernel
theorem dX4_waiting_100 : decode cX4_waiting 100 = .ok (.goto 4, 3) := by decide +kernel
theorem dX4_waiting_103 : decode cX4_waiting 103 = .ok (.iconst (-1), 1) := by decide +kernel
theorem dX4_waiting_104 : decode cX4_waiting 104 = .ok (.ireturn, 1) := by decide +kernel
theorem dX4_sheet_0 : decode cX4_sheet 0 = .ok (.iload_n 1, 1) := by decide +kernel
theorem dX4_sheet_1 : decode cX4_sheet 1 = .ok (.invokestatic 153, 3) := by decide +kernel
theorem dX4_sheet_4 : decode cX4_sheet 4 = .ok (.ifCond .eq 16, 3) := by decide +kernel
theorem dX4_sheet_7 : decode cX4_sheet 7 = .ok (.iload_n 2, 1) := by decide +kernel
theorem dX4_sheet_8 : decode cX4_sheet 8 = .ok (.invokestatic 156, 3) := by decide +kernel
theorem dX4_sheet_11 : decode cX4_sheet 11 = .ok (.ifCond .eq 9, 3) := by decide +kernel
theorem dX4_sheet_14 : decode cX4_sheet 14 = .ok (.iload_n 3, 1) := by decide +kernel
theorem dX4_sheet_15 : decode cX4_sheet 15 = .ok (.bipush 20, 2) := by decide +kernel
theorem dX4_sheet_17 : decode cX4_sheet 17 = .ok (.if_icmp .le 7, 3) := by decide +kernel
theorem dX4_sheet_20 : decode cX4_sheet 20 = .ok (.sipush (-200), 3) := by decide +kernel
theorem dX4_sheet_23 : decode cX4_sheet 23 = .ok (.ireturn, 1) := by decide +kernel
theorem dX4_sheet_24 : decode cX4_sheet 24 = .ok (.iload_n 3, 1) := by decide +kernel
theorem dX4_sheet_25 : decode cX4_sheet 25 = .ok (.ifCond .ge 9, 3) := by decide +kernel
theorem dX4_sheet_28 : decode cX4_sheet 28 = .ok (.aload_n 0, 1) := by decide +kernel
theorem dX4_sheet_29 : decode cX4_sheet 29 = .ok (.iconst 5, 1) := by decide +kernel
theorem dX4_sheet_30 : decode cX4_sheet 30 = .ok (.invokevirtual 159, 3) := by decide +kernel
theorem dX4_sheet_33 : decode cX4_sheet 33 = .ok (.ireturn, 1) := by decide +kernel
theorem dX4_sheet_34 : decode cX4_sheet 34 = .ok (.aload_n 0, 1) := by decide +kernel
theorem dX4_sheet_35 : decode cX4_sheet 35 = .ok (.getfield 41, 3) := by decide +kernel
theorem dX4_sheet_38 : decode cX4_sheet 38 = .ok (.iload_n 1, 1) := by decide +kernel
theorem dX4_sheet_39 : decode cX4_sheet 39 = .ok (.aaload, 1) := by decide +kernel
theorem dX4_sheet_40 : decode cX4_sheet 40 = .ok (.iload_n 2, 1) := by decide +kernel
theorem dX4_sheet_41 : decode cX4_sheet 41 = .ok (.iload_n 3, 1) := by decide +kernel
theorem dX4_sheet_42 : decode cX4_sheet 42 = .ok (.invokevirtual 162, 3) := by decide +kernel
theorem dX4_sheet_45 : decode cX4_sheet 45 = .ok (.iload_n 3, 1) := by decide +kernel
theorem dX4_sheet_46 : decode cX4_sheet 46 = .ok (.ireturn, 1) := by decide +kernel
theorem dX4_lose_0 : decode cX4_lose 0 = .ok (.iload_n 1, 1) := by decide +kernel
theorem dX4_lose_1 : decode cX4_lose 1 = .ok (.invokestatic 153, 3) := by decide +kernel
theorem dX4_lose_4 : decode cX4_lose 4 = .ok (.ifCond .ne 7, 3) := by decide +kernel
theorem dX4_lose_7 : decode cX4_lose 7 = .ok (.sipush (-200), 3) := by decide +kernel
theorem dX4_lose_10 : decode cX4_lose 10 = .ok (.ireturn, 1) := by decide +kernel
theorem dX4_lose_11 : decode cX4_lose 11 = .ok (.aload_n 0, 1) := by decide +kernel
theorem dX4_lose_12 : decode cX4_lose 12 = .ok (.getfield 41, 3) := by decide +kernel
theorem dX4_lose_15 : decode cX4_lose 15 = .ok (.iload_n 1, 1) := by decide +kernel
theorem dX4_lose_16 : decode cX4_lose 16 = .ok (.aaload, 1) := by decide +kernel
theorem dX4_lose_17 : decode cX4_lose 17 = .ok (.getfield 166, 3) := by decide +kernel
theorem dX4_lose_20 : decode cX4_lose 20 = .ok (.ifCond .eq 9, 3) := by decide +kernel
theorem dX4_lose_23 : decode cX4_lose 23 = .ok (.aload_n 0, 1) := by decide +kernel
theorem dX4_lose_24 : decode cX4_lose 24 = .ok (.iconst 1, 1) := by decide +kernel
theorem dX4_lose_25 : decode cX4_lose 25 = .ok (.invokevirtual 159, 3) := by decide +kernel
theorem dX4_lose_28 : decode cX4_lose 28 = .ok (.ireturn, 1) := by decide +kernel
theorem dX4_lose_29 : decode cX4_lose 29 = .ok (.aload_n 0, 1) := by decide +kernel
theorem dX4_lose_30 : decode cX4_lose 30 = .ok (.getfield 41, 3) := by decide +kernel
theorem dX4_lose_33 : decode cX4_lose 33 = .ok (.iload_n 1, 1) := by decide +kernel
theorem dX4_lose_34 : decode cX4_lose 34 = .ok (.aaload, 1) := by decide +kernel
theorem dX4_lose_35 : decode cX4_lose 35 = .ok (.iconst 1, 1) := by decide +kernel
theorem dX4_lose_36 : decode cX4_lose 36 = .ok (.putfield 166, 3) := by decide +kernel
theorem dX4_lose_39 : decode cX4_lose 39 = .ok (.aload_n 0, 1) := by decide +kernel
theorem dX4_lose_40 : decode cX4_lose 40 = .ok (.getfield 41, 3) := by decide +kernel
theorem dX4_lose_43 : decode cX4_lose 43 = .ok (.iload_n 1, 1) := by decide +kernel
theorem dX4_lose_44 : decode cX4_lose 44 = .ok (.aaload, 1) := by decide +kernel
theorem dX4_lose_45 : decode cX4_lose 45 = .ok (.getfield 170, 3) := by decide +kernel
theorem dX4_lose_48 : decode cX4_lose 48 = .ok (.ireturn, 1) := by decide +kernel
theorem dX4_put_0 : decode cX4_put 0 = .ok (.iload_n 1, 1) := by decide +kernel
theorem dX4_put_1 : decode cX4_put 1 = .ok (.invokestatic 153, 3) := by decide +kernel
theorem dX4_put_4 : decode cX4_put 4 = .ok (.ifCond .eq 10, 3) := by decide +kernel
theorem dX4_put_7 : decode cX4_put 7 = .ok (.iload_n 2, 1) := by decide +kernel
theorem dX4_put_8 : decode cX4_put 8 = .ok (.invokestatic 156, 3) := by decide +kernel
theorem dX4_put_11 : decode cX4_put 11 = .ok (.ifCond .ne 7, 3) := by decide +kernel
theorem dX4_put_14 : decode cX4_put 14 = .ok (.sipush (-200), 3) := by decide +kernel
theorem dX4_put_17 : decode cX4_put 17 = .ok (.ireturn, 1) := by decide +kernel
theorem dX4_put_18 : decode cX4_put 18 = .ok (.aload_n 0, 1) := by decide +kernel
theorem dX4_put_19 : decode cX4_put 19 = .ok (.getfield 41, 3) := by decide +kernel
theorem dX4_put_22 : decode cX4_put 22 = .ok (.iload_n 1, 1) := by decide +kernel
theorem dX4_put_23 : decode cX4_put 23 = .ok (.aaload, 1) := by decide +kernel
theorem dX4_put_24 : decode cX4_put 24 = .ok (.iload_n 2, 1) := by decide +kernel
theorem dX4_put_25 : decode cX4_put 25 = .ok (.iload_n 3, 1) := by decide +kernel
theorem dX4_put_26 : decode cX4_put 26 = .ok (.invokevirtual 173, 3) := by decide +kernel
theorem dX4_put_29 : decode cX4_put 29 = .ok (.istore 5, 2) := by decide +kernel
theorem dX4_put_31 : decode cX4_put 31 = .ok (.iload 5, 2) := by decide +kernel
theorem dX4_put_33 : decode cX4_put 33 = .ok (.ifCond .eq 10, 3) := by decide +kernel
theorem dX4_put_36 : decode cX4_put 36 = .ok (.aload_n 0, 1) := by decide +kernel
theorem dX4_put_37 : decode cX4_put 37 = .ok (.iload 5, 2) := by decide +kernel
theorem dX4_put_39 : decode cX4_put 39 = .ok (.invokevirtual 159, 3) := by decide +kernel
theorem dX4_put_42 : decode cX4_put 42 = .ok (.ireturn, 1) := by decide +kernel
theorem dX4_put_43 : decode cX4_put 43 = .ok (.aload_n 0, 1) := by decide +kernel
theorem dX4_put_44 : decode cX4_put 44 = .ok (.getfield 41, 3) := by decide +kernel
theorem dX4_put_47 : decode cX4_put 47 = .ok (.iload_n 1, 1) := by decide +kernel
theorem dX4_put_48 : decode cX4_put 48 = .ok (.aaload, 1) := by decide +kernel
theorem dX4_put_49 : decode cX4_put 49 = .ok (.iload_n 3, 1) := by decide +kernel
theorem dX4_put_50 : decode cX4_put 50 = .ok (.iload 4, 2) := by decide +kernel
theorem dX4_put_52 : decode cX4_put 52 = .ok (.invokevirtual 176, 3) := by decide +kernel
theorem dX4_put_55 : decode cX4_put 55 = .ok (.iconst 1, 1) := by decide +kernel
theorem dX4_put_56 : decode cX4_put 56 = .ok (.ireturn, 1) := by decide +kernel
theorem dX4_get_0 : decode cX4_get 0 = .ok (.iload_n 1, 1) := by decide +kernel
theorem dX4_get_1 : decode cX4_get 1 = .ok (.invokestatic 153, 3) := by decide +kernel
theorem dX4_get_4 : decode cX4_get 4 = .ok (.ifCond .eq 10, 3) := by decide +kernel
theorem dX4_get_7 : decode cX4_get 7 = .ok (.iload_n 2, 1) := by decide +kernel
theorem dX4_get_8 : decode cX4_get 8 = .ok (.invokestatic 156, 3) := by decide +kernel
theorem dX4_get_11 : decode cX4_get 11 = .ok (.ifCond .ne 6, 3) := by decide +kernel
theorem dX4_get_14 : decode cX4_get 14 = .ok (.ldc 179, 2) := by decide +kernel
theorem dX4_get_16 : decode cX4_get 16 = .ok (.ireturn, 1) := by decide +kernel
theorem dX4_get_17 : decode cX4_get 17 = .ok (.aload_n 0, 1) := by decide +kernel
theorem dX4_get_18 : decode cX4_get 18 = .ok (.getfield 41, 3) := by decide +kernel
theorem dX4_get_21 : decode cX4_get 21 = .ok (.iload_n 1, 1) := by decide +kernel
theorem dX4_get_22 : decode cX4_get 22 = .ok (.aaload, 1) := by decide +kernel
theorem dX4_get_23 : decode cX4_get 23 = .ok (.iload_n 2, 1) := by decide +kernel
theorem dX4_get_24 : decode cX4_get 24 = .ok (.iload_n 3, 1) := by decide +kernel
theorem dX4_get_25 : decode cX4_get 25 = .ok (.invokevirtual 173, 3) := by decide +kernel
theorem dX4_get_28 : decode cX4_get 28 = .ok (.istore 4, 2) := by decide +kernel
theorem dX4_get_30 : decode cX4_get 30 = .ok (.iload 4, 2) := by decide +kernel
theorem dX4_get_32 : decode cX4_get 32 = .ok (.ifCond .eq 13, 3) := by decide +kernel
theorem dX4_get_35 : decode cX4_get 35 = .ok (.aload_n 0, 1) := by decide +kernel
theorem dX4_get_36 : decode cX4_get 36 = .ok (.iload 4, 2) := by decide +kernel
theorem dX4_get_38 : decode cX4_get 38 = .ok (.invokevirtual 159, 3) := by decide +kernel
theorem dX4_get_41 : decode cX4_get 41 = .ok (.pop, 1) := by decide +kernel
theorem dX4_get_42 : decode cX4_get 42 = .ok (.ldc 179, 2) := by decide +kernel
theorem dX4_get_44 : decode cX4_get 44 = .ok (.ireturn, 1) := by decide +kernel
theorem dX4_get_45 : decode cX4_get 45 = .ok (.aload_n 0, 1) := by decide +kernel
theorem dX4_get_46 : decode cX4_get 46 = .ok (.getfield 41, 3) := by decide +kernel
theorem dX4_get_49 : decode cX4_get 49 = .ok (.iload_n 1, 1) := by decide +kernel
theorem dX4_get_50 : decode cX4_get 50 = .ok (.aaload, 1) := by decide +kernel
theorem dX4_get_51 : decode cX4_get 51 = .ok (.getfield 180, 3) := by decide +kernel
theorem dX4_get_54 : decode cX4_get 54 = .ok (.iload_n 3, 1) := by decide +kernel
theorem dX4_get_55 : decode cX4_get 55 = .ok (.iaload, 1) := by decide +kernel
theorem dX4_get_56 : decode cX4_get 56 = .ok (.ireturn, 1) := by decide +kernel
theorem dX4_copy_0 : decode cX4_copy 0 = .ok (.iload_n 1, 1) := by decide +kernel
theorem dX4_copy_1 : decode cX4_copy 1 = .ok (.invokestatic 153, 3) := by decide +kernel
theorem dX4_copy_4 : decode cX4_copy 4 = .ok (.ifCond .eq 10, 3) := by decide +kernel
theorem dX4_copy_7 : decode cX4_copy 7 = .ok (.iload_n 3, 1) := by decide +kernel
theorem dX4_copy_8 : decode cX4_copy 8 = .ok (.invokestatic 153, 3) := by decide +kernel
theorem dX4_copy_11 : decode cX4_copy 11 = .ok (.ifCond .ne 7, 3) := by decide +kernel
theorem dX4_copy_14 : decode cX4_copy 14 = .ok (.sipush (-200), 3) := by decide +kernel
theorem dX4_copy_17 : decode cX4_copy 17 = .ok (.ireturn, 1) := by decide +kernel
theorem dX4_copy_18 : decode cX4_copy 18 = .ok (.aload_n 0, 1) := by decide +kernel
theorem dX4_copy_19 : decode cX4_copy 19 = .ok (.getfield 41, 3) := by decide +kernel
theorem dX4_copy_22 : decode cX4_copy 22 = .ok (.iload_n 1, 1) := by decide +kernel
theorem dX4_copy_23 : decode cX4_copy 23 = .ok (.aaload, 1) := by decide +kernel
theorem dX4_copy_24 : decode cX4_copy 24 = .ok (.astore 6, 2) := by decide +kernel
theorem dX4_copy_26 : decode cX4_copy 26 = .ok (.aload_n 0, 1) := by decide +kernel
theorem dX4_copy_27 : decode cX4_copy 27 = .ok (.getfield 41, 3) := by decide +kernel
theorem dX4_copy_30 : decode cX4_copy 30 = .ok (.iload_n 3, 1) := by decide +kernel
theorem dX4_copy_31 : decode cX4_copy 31 = .ok (.aaload, 1) := by decide +kernel
theorem dX4_copy_32 : decode cX4_copy 32 = .ok (.astore 7, 2) := by decide +kernel
theorem dX4_copy_34 : decode cX4_copy 34 = .ok (.aload 6, 2) := by decide +kernel
theorem dX4_copy_36 : decode cX4_copy 36 = .ok (.getfield 166, 3) := by decide +kernel
theorem dX4_copy_39 : decode cX4_copy 39 = .ok (.ifCond .ne 11, 3) := by decide +kernel
theorem dX4_copy_42 : decode cX4_copy 42 = .ok (.aload 7, 2) := by decide +kernel
theorem dX4_copy_44 : decode cX4_copy 44 = .ok (.getfield 166, 3) := by decide +kernel
theorem dX4_copy_47 : decode cX4_copy 47 = .ok (.ifCond .eq 9, 3) := by decide +kernel
theorem dX4_copy_50 : decode cX4_copy 50 = .ok (.aload_n 0, 1) := by decide +kernel
theorem dX4_copy_51 : decode cX4_copy 51 = .ok (.iconst 1, 1) := by decide +kernel
theorem dX4_copy_52 : decode cX4_copy 52 = .ok (.invokevirtual 159, 3) := by decide +kernel
theorem dX4_copy_55 : decode cX4_copy 55 = .ok (.ireturn, 1) := by decide +kernel
theorem dX4_copy_56 : decode cX4_copy 56 = .ok (.aload 6, 2) := by decide +kernel
theorem dX4_copy_58 : decode cX4_copy 58 = .ok (.getfield 183, 3) := by decide +kernel
theorem dX4_copy_61 : decode cX4_copy 61 = .ok (.aload 7, 2) := by decide +kernel
theorem dX4_copy_63 : decode cX4_copy 63 = .ok (.getfield 183, 3) := by decide +kernel
theorem dX4_copy_66 : decode cX4_copy 66 = .ok (.if_icmp .eq 9, 3) := by decide +kernel
theorem dX4_copy_69 : decode cX4_copy 69 = .ok (.aload_n 0, 1) := by decide +kernel
theorem dX4_copy_70 : decode cX4_copy 70 = .ok (.iconst 4, 1) := by decide +kernel
theorem dX4_copy_71 : decode cX4_copy 71 = .ok (.invokevirtual 159, 3) := by decide +kernel
theorem dX4_copy_74 : decode cX4_copy 74 = .ok (.ireturn, 1) := by decide +kernel
theorem dX4_copy_75 : decode cX4_copy 75 = .ok (.aload 6, 2) := by decide +kernel
theorem dX4_copy_77 : decode cX4_copy 77 = .ok (.iload_n 2, 1) := by decide +kernel
theorem dX4_copy_78 : decode cX4_copy 78 = .ok (.iload 5, 2) := by decide +kernel
theorem dX4_copy_80 : decode cX4_copy 80 = .ok (.invokevirtual 186, 3) := by decide +kernel
theorem dX4_copy_83 : decode cX4_copy 83 = .ok (.ifCond .eq 15, 3) := by decide +kernel
theorem dX4_copy_86 : decode cX4_copy 86 = .ok (.aload 7, 2) := by decide +kernel
theorem dX4_copy_88 : decode cX4_copy 88 = .ok (.iload 4, 2) := by decide +kernel
theorem dX4_copy_90 : decode cX4_copy 90 = .ok (.iload 5, 2) := by decide +kernel
theorem dX4_copy_92 : decode cX4_copy 92 = .ok (.invokevirtual 186, 3) := by decide +kernel
theorem dX4_copy_95 : decode cX4_copy 95 = .ok (.ifCond .ne 9, 3) := by decide +kernel
theorem dX4_copy_98 : decode cX4_copy 98 = .ok (.aload_n 0, 1) := by decide +kernel
theorem dX4_copy_99 : decode cX4_copy 99 = .ok (.iconst 2, 1) := by decide +kernel
theorem dX4_copy_100 : decode cX4_copy 100 = .ok (.invokevirtual 159, 3) := by decide +kernel
theorem dX4_copy_103 : decode cX4_copy 103 = .ok (.ireturn, 1) := by decide +kernel
theorem dX4_copy_104 : decode cX4_copy 104 = .ok (.aload 6, 2) := by decide +kernel
theorem dX4_copy_106 : decode cX4_copy 106 = .ok (.getfield 180, 3) := by decide +kernel
theorem dX4_copy_109 : decode cX4_copy 109 = .ok (.iload_n 2, 1) := by decide +kernel
theorem dX4_copy_110 : decode cX4_copy 110 = .ok (.aload 7, 2) := by decide +kernel
theorem dX4_copy_112 : decode cX4_copy 112 = .ok (.getfield 180, 3) := by decide +kernel
theorem dX4_copy_115 : decode cX4_copy 115 = .ok (.iload 4, 2) := by decide +kernel
theorem dX4_copy_117 : decode cX4_copy 117 = .ok (.iload 5, 2) := by decide +kernel
theorem dX4_copy_119 : decode cX4_copy 119 = .ok (.invokestatic 190, 3) := by decide +kernel
theorem dX4_copy_122 : decode cX4_copy 122 = .ok (.iconst 1, 1) := by decide +kernel
theorem dX4_copy_123 : decode cX4_copy 123 = .ok (.ireturn, 1) := by decide +kernel
theorem dX4_take_0 : decode cX4_take 0 = .ok (.iload_n 1, 1) := by decide +kernel
theorem dX4_take_1 : decode cX4_take 1 = .ok (.invokestatic 153, 3) := by decide +kernel
theorem dX4_take_4 : decode cX4_take 4 = .ok (.ifCond .eq 13, 3) := by decide +kernel
theorem dX4_take_7 : decode cX4_take 7 = .ok (.iload_n 2, 1) := by decide +kernel
theorem dX4_take_8 : decode cX4_take 8 = .ok (.iconst 0, 1) := by decide +kernel
theorem dX4_take_9 : decode cX4_take 9 = .ok (.bipush 16, 2) := by decide +kernel
theorem dX4_take_11 : decode cX4_take 11 = .ok (.invokestatic 46, 3) := by decide +kernel
theorem dX4_take_14 : decode cX4_take 14 = .ok (.ifCond .ne 7, 3) := by decide +kernel
theorem dX4_take_17 : decode cX4_take 17 = .ok (.sipush (-200), 3) := by decide +kernel
theorem dX4_take_20 : decode cX4_take 20 = .ok (.ireturn, 1) := by decide +kernel
theorem dX4_take_21 : decode cX4_take 21 = .ok (.aload_n 0, 1) := by decide +kernel
theorem dX4_take_22 : decode cX4_take 22 = .ok (.getfield 41, 3) := by decide +kernel
theorem dX4_take_25 : decode cX4_take 25 = .ok (.iload_n 1, 1) := by decide +kernel
theorem dX4_take_26 : decode cX4_take 26 = .ok (.aaload, 1) := by decide +kernel
theorem dX4_take_27 : decode cX4_take 27 = .ok (.astore_n 3, 1) := by decide +kernel
theorem dX4_take_28 : decode cX4_take 28 = .ok (.aload_n 3, 1) := by decide +kernel
theorem dX4_take_29 : decode cX4_take 29 = .ok (.getfield 166, 3) := by decide +kernel
theorem dX4_take_32 : decode cX4_take 32 = .ok (.ifCond .eq 9, 3) := by decide +kernel
theorem dX4_take_35 : decode cX4_take 35 = .ok (.aload_n 0, 1) := by decide +kernel
theorem dX4_take_36 : decode cX4_take 36 = .ok (.iconst 1, 1) := by decide +kernel
theorem dX4_take_37 : decode cX4_take 37 = .ok (.invokevirtual 159, 3) := by decide +kernel
theorem dX4_take_40 : decode cX4_take 40 = .ok (.ireturn, 1) := by decide +kernel
theorem dX4_take_41 : decode cX4_take 41 = .ok (.aload_n 3, 1) := by decide +kernel
theorem dX4_take_42 : decode cX4_take 42 = .ok (.iconst 0, 1) := by decide +kernel
theorem dX4_take_43 : decode cX4_take 43 = .ok (.iload_n 2, 1) := by decide +kernel
theorem dX4_take_44 : decode cX4_take 44 = .ok (.invokevirtual 186, 3) := by decide +kernel
theorem dX4_take_47 : decode cX4_take 47 = .ok (.ifCond .ne 9, 3) := by decide +kernel
theorem dX4_take_50 : decode cX4_take 50 = .ok (.aload_n 0, 1) := by decide +kernel
theorem dX4_take_51 : decode cX4_take 51 = .ok (.iconst 2, 1) := by decide +kernel
theorem dX4_take_52 : decode cX4_take 52 = .ok (.invokevirtual 159, 3) := by decide +kernel
theorem dX4_take_55 : decode cX4_take 55 = .ok (.ireturn, 1) := by decide +kernel
theorem dX4_take_56 : decode cX4_take 56 = .ok (.aload_n 0, 1) := by decide +kernel
theorem dX4_take_57 : decode cX4_take 57 = .ok (.getfield 36, 3) := by decide +kernel
theorem dX4_take_60 : decode cX4_take 60 = .ok (.invokevirtual 57, 3) := by decide +kernel
theorem dX4_take_63 : decode cX4_take 63 = .ok (.iconst 0, 1) := by decide +kernel
theorem dX4_take_64 : decode cX4_take 64 = .ok (.istore 4, 2) := by decide +kernel
theorem dX4_take_66 : decode cX4_take 66 = .ok (.iload 4, 2) := by decide +kernel
theorem dX4_take_68 : decode cX4_take 68 = .ok (.iload_n 2, 1) := by decide +kernel
theorem dX4_take_69 : decode cX4_take 69 = .ok (.if_icmp .ge 43, 3) := by decide +kernel
theorem dX4_take_72 : decode cX4_take 72 = .ok (.aload_n 0, 1) := by decide +kernel
theorem dX4_take_73 : decode cX4_take 73 = .ok (.getfield 36, 3) := by decide +kernel
theorem dX4_take_76 : decode cX4_take 76 = .ok (.invokevirtual 67, 3) := by decide +kernel
theorem dX4_take_79 : decode cX4_take 79 = .ok (.ifCond .ne 21, 3) := by decide +kernel
theorem dX4_take_82 : decode cX4_take 82 = .ok (.aload_n 0, 1) := by decide +kernel
theorem dX4_take_83 : decode cX4_take 83 = .ok (.getfield 36, 3) := by decide +kernel
theorem dX4_take_86 : decode cX4_take 86 = .ok (.aload_n 3, 1) := by decide +kernel
theorem dX4_take_87 : decode cX4_take 87 = .ok (.getfield 180, 3) := by decide +kernel
theorem dX4_take_90 : decode cX4_take 90 = .ok (.iload 4, 2) := by decide +kernel
theorem dX4_take_92 : decode cX4_take 92 = .ok (.iaload, 1) := by decide +kernel
theorem dX4_take_93 : decode cX4_take 93 = .ok (.invokevirtual 71, 3) := by decide +kernel
theorem dX4_take_96 : decode cX4_take 96 = .ok (.iconst (-1), 1) := by decide +kernel
theorem dX4_take_97 : decode cX4_take 97 = .ok (.if_icmp .ne 9, 3) := by decide +kernel
theorem dX4_take_100 : decode cX4_take 100 = .ok (.bipush (-100), 2) := by decide +kernel
theorem dX4_take_102 : decode cX4_take 102 = .ok (.iload 4, 2) := by decide +kernel
theorem dX4_take_104 : decode cX4_take 104 = .ok (.isub, 1) := by decide +kernel
theorem dX4_take_105 : decode cX4_take 105 = .ok (.ireturn, 1) := by decide +kernel
theorem dX4_take_106 : decode cX4_take 106 = .ok (.iinc 4 1, 3) := by decide +kernel
theorem dX4_take_109 : decode cX4_take 109 = .ok (.goto (-43), 3) := by decide +kernel
theorem dX4_take_112 : decode cX4_take 112 = .ok (.aload_n 0, 1) := by decide +kernel
theorem dX4_take_113 : decode cX4_take 113 = .ok (.getfield 36, 3) := by decide +kernel
theorem dX4_take_116 : decode cX4_take 116 = .ok (.astore 4, 2) := by decide +kernel
theorem dX4_take_118 : decode cX4_take 118 = .ok (.aload_n 0, 1) := by decide +kernel
theorem dX4_take_119 : decode cX4_take 119 = .ok (.aload_n 0, 1) := by decide +kernel
theorem dX4_take_120 : decode cX4_take 120 = .ok (.getfield 32, 3) := by decide +kernel
theorem dX4_take_123 : decode cX4_take 123 = .ok (.putfield 36, 3) := by decide +kernel
theorem dX4_take_126 : decode cX4_take 126 = .ok (.aload_n 0, 1) := by decide +kernel
theorem dX4_take_127 : decode cX4_take 127 = .ok (.aload 4, 2) := by decide +kernel
theorem dX4_take_129 : decode cX4_take 129 = .ok (.putfield 32, 3) := by decide +kernel
theorem dX4_take_132 : decode cX4_take 132 = .ok (.aload_n 0, 1) := by decide +kernel
theorem dX4_take_133 : decode cX4_take 133 = .ok (.getfield 32, 3) := by decide +kernel
theorem dX4_take_136 : decode cX4_take 136 = .ok (.invokevirtual 95, 3) := by decide +kernel
theorem dX4_take_139 : decode cX4_take 139 = .ok (.ireturn, 1) := by decide +kernel
theorem dX4_write_0 : decode cX4_write 0 = .ok (.iload_n 1, 1) := by decide +kernel
theorem dX4_write_1 : decode cX4_write 1 = .ok (.invokestatic 153, 3) := by decide +kernel
theorem dX4_write_4 : decode cX4_write 4 = .ok (.ifCond .ne 7, 3) := by decide +kernel
theorem dX4_write_7 : decode cX4_write 7 = .ok (.sipush (-200), 3) := by decide +kernel
theorem dX4_write_10 : decode cX4_write 10 = .ok (.ireturn, 1) := by decide +kernel
theorem dX4_write_11 : decode cX4_write 11 = .ok (.aload_n 0, 1) := by decide +kernel
theorem dX4_write_12 : decode cX4_write 12 = .ok (.getfield 41, 3) := by decide +kernel
theorem dX4_write_15 : decode cX4_write 15 = .ok (.iload_n 1, 1) := by decide +kernel
theorem dX4_write_16 : decode cX4_write 16 = .ok (.aaload, 1) := by decide +kernel
theorem dX4_write_17 : decode cX4_write 17 = .ok (.astore_n 2, 1) := by decide +kernel
theorem dX4_write_18 : decode cX4_write 18 = .ok (.aload_n 2, 1) := by decide +kernel
theorem dX4_write_19 : decode cX4_write 19 = .ok (.getfield 166, 3) := by decide +kernel
theorem dX4_write_22 : decode cX4_write 22 = .ok (.ifCond .eq 9, 3) := by decide +kernel
theorem dX4_write_25 : decode cX4_write 25 = .ok (.aload_n 0, 1) := by decide +kernel
theorem dX4_write_26 : decode cX4_write 26 = .ok (.iconst 1, 1) := by decide +kernel
theorem dX4_write_27 : decode cX4_write 27 = .ok (.invokevirtual 159, 3) := by decide +kernel
theorem dX4_write_30 : decode cX4_write 30 = .ok (.ireturn, 1) := by decide +kernel
theorem dX4_write_31 : decode cX4_write 31 = .ok (.aload_n 2, 1) := by decide +kernel
theorem dX4_write_32 : decode cX4_write 32 = .ok (.iconst 0, 1) := by decide +kernel
theorem dX4_write_33 : decode cX4_write 33 = .ok (.aload_n 0, 1) := by decide +kernel
theorem dX4_write_34 : decode cX4_write 34 = .ok (.getfield 32, 3) := by decide +kernel
theorem dX4_write_37 : decode cX4_write 37 = .ok (.getfield 75, 3) := by decide +kernel
theorem dX4_write_40 : decode cX4_write 40 = .ok (.invokevirtual 186, 3) := by decide +kernel
theorem dX4_write_43 : decode cX4_write 43 = .ok (.ifCond .ne 9, 3) := by decide +kernel
theorem dX4_write_46 : decode cX4_write 46 = .ok (.aload_n 0, 1) := by decide +kernel
theorem dX4_write_47 : decode cX4_write 47 = .ok (.iconst 2, 1) := by decide +kernel
theorem dX4_write_48 : decode cX4_write 48 = .ok (.invokevirtual 159, 3) := by decide +kernel
theorem dX4_write_51 : decode cX4_write 51 = .ok (.ireturn, 1) := by decide +kernel
theorem dX4_write_52 : decode cX4_write 52 = .ok (.iconst 0, 1) := by decide +kernel
theorem dX4_write_53 : decode cX4_write 53 = .ok (.istore_n 3, 1) := by decide +kernel
theorem dX4_write_54 : decode cX4_write 54 = .ok (.iload_n 3, 1) := by decide +kernel
theorem dX4_write_55 : decode cX4_write 55 = .ok (.aload_n 0, 1) := by decide +kernel
theorem dX4_write_56 : decode cX4_write 56 = .ok (.getfield 32, 3) := by decide +kernel
theorem dX4_write_59 : decode cX4_write 59 = .ok (.getfield 75, 3) := by decide +kernel
theorem dX4_write_62 : decode cX4_write 62 = .ok (.if_icmp .ge 23, 3) := by decide +kernel
theorem dX4_write_65 : decode cX4_write 65 = .ok (.aload_n 2, 1) := by decide +kernel
theorem dX4_write_66 : decode cX4_write 66 = .ok (.iload_n 3, 1) := by decide +kernel
theorem dX4_write_67 : decode cX4_write 67 = .ok (.aload_n 0, 1) := by decide +kernel
theorem dX4_write_68 : decode cX4_write 68 = .ok (.getfield 32, 3) := by decide +kernel
theorem dX4_write_71 : decode cX4_write 71 = .ok (.getfield 81, 3) := by decide +kernel
theorem dX4_write_74 : decode cX4_write 74 = .ok (.iload_n 3, 1) := by decide +kernel
theorem dX4_write_75 : decode cX4_write 75 = .ok (.iaload, 1) := by decide +kernel
theorem dX4_write_76 : decode cX4_write 76 = .ok (.invokevirtual 176, 3) := by decide +kernel
theorem dX4_write_79 : decode cX4_write 79 = .ok (.iinc 3 1, 3) := by decide +kernel
theorem dX4_write_82 : decode cX4_write 82 = .ok (.goto (-28), 3) := by decide +kernel
theorem dX4_write_85 : decode cX4_write 85 = .ok (.aload_n 0, 1) := by decide +kernel
theorem dX4_write_86 : decode cX4_write 86 = .ok (.getfield 32, 3) := by decide +kernel
theorem dX4_write_89 : decode cX4_write 89 = .ok (.getfield 75, 3) := by decide +kernel
theorem dX4_write_92 : decode cX4_write 92 = .ok (.ireturn, 1) := by decide +kernel
theorem dX4_count_0 : decode cX4_count 0 = .ok (.iload_n 1, 1) := by decide +kernel
theorem dX4_count_1 : decode cX4_count 1 = .ok (.tableswitch 104 0 6 #[43, 51, 59, 67, 83, 91, 99], 43) := by decide +kernel
theorem dX4_count_44 : decode cX4_count 44 = .ok (.aload_n 0, 1) := by decide +kernel
theorem dX4_count_45 : decode cX4_count 45 = .ok (.getfield 10, 3) := by decide +kernel
theorem dX4_count_48 : decode cX4_count 48 = .ok (.getfield 130, 3) := by decide +kernel
theorem dX4_count_51 : decode cX4_count 51 = .ok (.ireturn, 1) := by decide +kernel
theorem dX4_count_52 : decode cX4_count 52 = .ok (.aload_n 0, 1) := by decide +kernel
theorem dX4_count_53 : decode cX4_count 53 = .ok (.getfield 10, 3) := by decide +kernel
theorem dX4_count_56 : decode cX4_count 56 = .ok (.getfield 196, 3) := by decide +kernel
theorem dX4_count_59 : decode cX4_count 59 = .ok (.ireturn, 1) := by decide +kernel
theorem dX4_count_60 : decode cX4_count 60 = .ok (.aload_n 0, 1) := by decide +kernel
theorem dX4_count_61 : decode cX4_count 61 = .ok (.getfield 10, 3) := by decide +kernel
theorem dX4_count_64 : decode cX4_count 64 = .ok (.getfield 107, 3) := by decide +kernel
theorem dX4_count_67 : decode cX4_count 67 = .ok (.ireturn, 1) := by decide +kernel
theorem dX4_count_68 : decode cX4_count 68 = .ok (.aload_n 0, 1) := by decide +kernel
theorem dX4_count_69 : decode cX4_count 69 = .ok (.getfield 10, 3) := by decide +kernel
theorem dX4_count_72 : decode cX4_count 72 = .ok (.getfield 199, 3) := by decide +kernel
theorem dX4_count_75 : decode cX4_count 75 = .ok (.ifCond .eq 7, 3) := by decide +kernel
theorem dX4_count_78 : decode cX4_count 78 = .ok (.iconst 1, 1) := by decide +kernel
theorem dX4_count_79 : decode cX4_count 79 = .ok (.goto 4, 3) := by decide +kernel
theorem dX4_count_82 : decode cX4_count 82 = .ok (.iconst 0, 1) := by decide +kernel
theorem dX4_count_83 : decode cX4_count 83 = .ok (.ireturn, 1) := by decide +kernel
theorem dX4_count_84 : decode cX4_count 84 = .ok (.aload_n 0, 1) := by decide +kernel
theorem dX4_count_85 : decode cX4_count 85 = .ok (.getfield 10, 3) := by decide +kernel
theorem dX4_count_88 : decode cX4_count 88 = .ok (.getfield 60, 3) := by decide +kernel
theorem dX4_count_91 : decode cX4_count 91 = .ok (.ireturn, 1) := by decide +kernel
theorem dX4_count_92 : decode cX4_count 92 = .ok (.aload_n 0, 1) := by decide +kernel
theorem dX4_count_93 : decode cX4_count 93 = .ok (.getfield 10, 3) := by decide +kernel
theorem dX4_count_96 : decode cX4_count 96 = .ok (.getfield 85, 3) := by decide +kernel
theorem dX4_count_99 : decode cX4_count 99 = .ok (.ireturn, 1) := by decide +kernel
theorem dX4_count_100 : decode cX4_count 100 = .ok (.aload_n 0, 1) := by decide +kernel
theorem dX4_count_101 : decode cX4_count 101 = .ok (.getfield 202, 3) := by decide +kernel
theorem dX4_count_104 : decode cX4_count 104 = .ok (.ireturn, 1) := by decide +kernel
theorem dX4_count_105 : decode cX4_count 105 = .ok (.sipush (-200), 3) := by decide +kernel
theorem dX4_count_108 : decode cX4_count 108 = .ok (.ireturn, 1) := by decide +kernel
theorem dX4_digest_0 : decode cX4_digest 0 = .ok (.ldc2_w 205, 3) := by decide +kernel
theorem dX4_digest_3 : decode cX4_digest 3 = .ok (.lstore_n 1, 1) := by decide +kernel
theorem dX4_digest_4 : decode cX4_digest 4 = .ok (.iconst 0, 1) := by decide +kernel
theorem dX4_digest_5 : decode cX4_digest 5 = .ok (.istore_n 3, 1) := by decide +kernel
theorem dX4_digest_6 : decode cX4_digest 6 = .ok (.iload_n 3, 1) := by decide +kernel
theorem dX4_digest_7 : decode cX4_digest 7 = .ok (.iconst 5, 1) := by decide +kernel
theorem dX4_digest_8 : decode cX4_digest 8 = .ok (.if_icmp .gt 22, 3) := by decide +kernel
theorem dX4_digest_11 : decode cX4_digest 11 = .ok (.ldc2_w 207, 3) := by decide +kernel
theorem dX4_digest_14 : decode cX4_digest 14 = .ok (.lload_n 1, 1) := by decide +kernel
theorem dX4_digest_15 : decode cX4_digest 15 = .ok (.lmul, 1) := by decide +kernel
theorem dX4_digest_16 : decode cX4_digest 16 = .ok (.aload_n 0, 1) := by decide +kernel
theorem dX4_digest_17 : decode cX4_digest 17 = .ok (.iload_n 3, 1) := by decide +kernel
theorem dX4_digest_18 : decode cX4_digest 18 = .ok (.invokevirtual 209, 3) := by decide +kernel
theorem dX4_digest_21 : decode cX4_digest 21 = .ok (.i2l, 1) := by decide +kernel
theorem dX4_digest_22 : decode cX4_digest 22 = .ok (.ladd, 1) := by decide +kernel
theorem dX4_digest_23 : decode cX4_digest 23 = .ok (.lstore_n 1, 1) := by decide +kernel
theorem dX4_digest_24 : decode cX4_digest 24 = .ok (.iinc 3 1, 3) := by decide +kernel
theorem dX4_digest_27 : decode cX4_digest 27 = .ok (.goto (-21), 3) := by decide +kernel
theorem dX4_digest_30 : decode cX4_digest 30 = .ok (.iconst 0, 1) := by decide +kernel
theorem dX4_digest_31 : decode cX4_digest 31 = .ok (.istore_n 3, 1) := by decide +kernel
theorem dX4_digest_32 : decode cX4_digest 32 = .ok (.iload_n 3, 1) := by decide +kernel
theorem dX4_digest_33 : decode cX4_digest 33 = .ok (.iconst 4, 1) := by decide +kernel
theorem dX4_digest_34 : decode cX4_digest 34 = .ok (.if_icmp .gt 22, 3) := by decide +kernel
theorem dX4_digest_37 : decode cX4_digest 37 = .ok (.ldc2_w 207, 3) := by decide +kernel
theorem dX4_digest_40 : decode cX4_digest 40 = .ok (.lload_n 1, 1) := by decide +kernel
theorem dX4_digest_41 : decode cX4_digest 41 = .ok (.lmul, 1) := by decide +kernel
theorem dX4_digest_42 : decode cX4_digest 42 = .ok (.aload_n 0, 1) := by decide +kernel
theorem dX4_digest_43 : decode cX4_digest 43 = .ok (.iload_n 3, 1) := by decide +kernel
theorem dX4_digest_44 : decode cX4_digest 44 = .ok (.invokevirtual 212, 3) := by decide +kernel
theorem dX4_digest_47 : decode cX4_digest 47 = .ok (.i2l, 1) := by decide +kernel
theorem dX4_digest_48 : decode cX4_digest 48 = .ok (.ladd, 1) := by decide +kernel
theorem dX4_digest_49 : decode cX4_digest 49 = .ok (.lstore_n 1, 1) := by decide +kernel
theorem dX4_digest_50 : decode cX4_digest 50 = .ok (.iinc 3 1, 3) := by decide +kernel
theorem dX4_digest_53 : decode cX4_digest 53 = .ok (.goto (-21), 3) := by decide +kernel
theorem dX4_digest_56 : decode cX4_digest 56 = .ok (.iconst 0, 1) := by decide +kernel
theorem dX4_digest_57 : decode cX4_digest 57 = .ok (.istore_n 3, 1) := by decide +kernel
theorem dX4_digest_58 : decode cX4_digest 58 = .ok (.iload_n 3, 1) := by decide +kernel
theorem dX4_digest_59 : decode cX4_digest 59 = .ok (.aload_n 0, 1) := by decide +kernel
theorem dX4_digest_60 : decode cX4_digest 60 = .ok (.getfield 32, 3) := by decide +kernel
theorem dX4_digest_63 : decode cX4_digest 63 = .ok (.getfield 75, 3) := by decide +kernel
theorem dX4_digest_66 : decode cX4_digest 66 = .ok (.if_icmp .ge 26, 3) := by decide +kernel
theorem dX4_digest_69 : decode cX4_digest 69 = .ok (.ldc2_w 207, 3) := by decide +kernel
theorem dX4_digest_72 : decode cX4_digest 72 = .ok (.lload_n 1, 1) := by decide +kernel
theorem dX4_digest_73 : decode cX4_digest 73 = .ok (.lmul, 1) := by decide +kernel
theorem dX4_digest_74 : decode cX4_digest 74 = .ok (.aload_n 0, 1) := by decide +kernel
theorem dX4_digest_75 : decode cX4_digest 75 = .ok (.getfield 32, 3) := by decide +kernel
theorem dX4_digest_78 : decode cX4_digest 78 = .ok (.getfield 81, 3) := by decide +kernel
theorem dX4_digest_81 : decode cX4_digest 81 = .ok (.iload_n 3, 1) := by decide +kernel
theorem dX4_digest_82 : decode cX4_digest 82 = .ok (.iaload, 1) := by decide +kernel
theorem dX4_digest_83 : decode cX4_digest 83 = .ok (.i2l, 1) := by decide +kernel
theorem dX4_digest_84 : decode cX4_digest 84 = .ok (.ladd, 1) := by decide +kernel
theorem dX4_digest_85 : decode cX4_digest 85 = .ok (.lstore_n 1, 1) := by decide +kernel
theorem dX4_digest_86 : decode cX4_digest 86 = .ok (.iinc 3 1, 3) := by decide +kernel
theorem dX4_digest_89 : decode cX4_digest 89 = .ok (.goto (-31), 3) := by decide +kernel
theorem dX4_digest_92 : decode cX4_digest 92 = .ok (.iconst 0, 1) := by decide +kernel
theorem dX4_digest_93 : decode cX4_digest 93 = .ok (.istore_n 3, 1) := by decide +kernel
theorem dX4_digest_94 : decode cX4_digest 94 = .ok (.iload_n 3, 1) := by decide +kernel
theorem dX4_digest_95 : decode cX4_digest 95 = .ok (.aload_n 0, 1) := by decide +kernel
theorem dX4_digest_96 : decode cX4_digest 96 = .ok (.getfield 10, 3) := by decide +kernel
theorem dX4_digest_99 : decode cX4_digest 99 = .ok (.getfield 85, 3) := by decide +kernel
theorem dX4_digest_102 : decode cX4_digest 102 = .ok (.if_icmp .ge 25, 3) := by decide +kernel
theorem dX4_digest_105 : decode cX4_digest 105 = .ok (.ldc2_w 207, 3) := by decide +kernel
theorem dX4_digest_108 : decode cX4_digest 108 = .ok (.lload_n 1, 1) := by decide +kernel
theorem dX4_digest_109 : decode cX4_digest 109 = .ok (.lmul, 1) := by decide +kernel
theorem dX4_digest_110 : decode cX4_digest 110 = .ok (.aload_n 0, 1) := by decide +kernel
theorem dX4_digest_111 : decode cX4_digest 111 = .ok (.getfield 32, 3) := by decide +kernel
theorem dX4_digest_114 : decode cX4_digest 114 = .ok (.iload_n 3, 1) := by decide +kernel
theorem dX4_digest_115 : decode cX4_digest 115 = .ok (.invokevirtual 88, 3) := by decide +kernel
theorem dX4_digest_118 : decode cX4_digest 118 = .ok (.i2l, 1) := by decide +kernel
theorem dX4_digest_119 : decode cX4_digest 119 = .ok (.ladd, 1) := by decide +kernel
theorem dX4_digest_120 : decode cX4_digest 120 = .ok (.lstore_n 1, 1) := by decide +kernel
theorem dX4_digest_121 : decode cX4_digest 121 = .ok (.iinc 3 1, 3) := by decide +kernel
theorem dX4_digest_124 : decode cX4_digest 124 = .ok (.goto (-30), 3) := by decide +kernel
theorem dX4_digest_127 : decode cX4_digest 127 = .ok (.lload_n 1, 1) := by decide +kernel
theorem dX4_digest_128 : decode cX4_digest 128 = .ok (.lreturn, 1) := by decide +kernel
theorem dX4_isWithin_0 : decode cX4_isWithin 0 = .ok (.iload_n 0, 1) := by decide +kernel
theorem dX4_isWithin_1 : decode cX4_isWithin 1 = .ok (.iload_n 1, 1) := by decide +kernel
theorem dX4_isWithin_2 : decode cX4_isWithin 2 = .ok (.if_icmp .lt 12, 3) := by decide +kernel
theorem dX4_isWithin_5 : decode cX4_isWithin 5 = .ok (.iload_n 0, 1) := by decide +kernel
theorem dX4_isWithin_6 : decode cX4_isWithin 6 = .ok (.iload_n 2, 1) := by decide +kernel
theorem dX4_isWithin_7 : decode cX4_isWithin 7 = .ok (.if_icmp .gt 7, 3) := by decide +kernel
theorem dX4_isWithin_10 : decode cX4_isWithin 10 = .ok (.iconst 1, 1) := by decide +kernel
theorem dX4_isWithin_11 : decode cX4_isWithin 11 = .ok (.goto 4, 3) := by decide +kernel
theorem dX4_isWithin_14 : decode cX4_isWithin 14 = .ok (.iconst 0, 1) := by decide +kernel
theorem dX4_isWithin_15 : decode cX4_isWithin 15 = .ok (.ireturn, 1) := by decide +kernel
theorem dX4_isSheet_0 : decode cX4_isSheet 0 = .ok (.iload_n 0, 1) := by decide +kernel
theorem dX4_isSheet_1 : decode cX4_isSheet 1 = .ok (.iconst 0, 1) := by decide +kernel
theorem dX4_isSheet_2 : decode cX4_isSheet 2 = .ok (.iconst 3, 1) := by decide +kernel
theorem dX4_isSheet_3 : decode cX4_isSheet 3 = .ok (.invokestatic 46, 3) := by decide +kernel
theorem dX4_isSheet_6 : decode cX4_isSheet 6 = .ok (.ireturn, 1) := by decide +kernel
theorem dX4_isForm_0 : decode cX4_isForm 0 = .ok (.iload_n 0, 1) := by decide +kernel
theorem dX4_isForm_1 : decode cX4_isForm 1 = .ok (.iconst 0, 1) := by decide +kernel
theorem dX4_isForm_2 : decode cX4_isForm 2 = .ok (.iconst 2, 1) := by decide +kernel
theorem dX4_isForm_3 : decode cX4_isForm 3 = .ok (.invokestatic 46, 3) := by decide +kernel
theorem dX4_isForm_6 : decode cX4_isForm 6 = .ok (.ireturn, 1) := by decide +kernel
theorem dX4_refuse_0 : decode cX4_refuse 0 = .ok (.aload_n 0, 1) := by decide +kernel
theorem dX4_refuse_1 : decode cX4_refuse 1 = .ok (.iload_n 1, 1) := by decide +kernel
theorem dX4_refuse_2 : decode cX4_refuse 2 = .ok (.putfield 202, 3) := by decide +kernel
theorem dX4_refuse_5 : decode cX4_refuse 5 = .ok (.bipush (-10), 2) := by decide +kernel
theorem dX4_refuse_7 : decode cX4_refuse 7 = .ok (.iload_n 1, 1) := by decide +kernel
theorem dX4_refuse_8 : decode cX4_refuse 8 = .ok (.isub, 1) := by decide +kernel
theorem dX4_refuse_9 : decode cX4_refuse 9 = .ok (.ireturn, 1) := by decide +kernel
theorem dX4_bestColumn_0 : decode cX4_bestColumn 0 = .ok (.aload_n 0, 1) := by decide +kernel
theorem dX4_bestColumn_1 : decode cX4_bestColumn 1 = .ok (.getfield 25, 3) := by decide +kernel
theorem dX4_bestColumn_4 : decode cX4_bestColumn 4 = .ok (.aload_n 0, 1) := by decide +kernel
theorem dX4_bestColumn_5 : decode cX4_bestColumn 5 = .ok (.getfield 32, 3) := by decide +kernel
theorem dX4_bestColumn_8 : decode cX4_bestColumn 8 = .ok (.invokevirtual 117, 3) := by decide +kernel
theorem dX4_bestColumn_11 : decode cX4_bestColumn 11 = .ok (.iconst (-1), 1) := by decide +kernel
theorem dX4_bestColumn_12 : decode cX4_bestColumn 12 = .ok (.istore_n 1, 1) := by decide +kernel
theorem dX4_bestColumn_13 : decode cX4_bestColumn 13 = .ok (.bipush (-100), 2) := by decide +kernel
theorem dX4_bestColumn_15 : decode cX4_bestColumn 15 = .ok (.istore_n 2, 1) := by decide +kernel
theorem dX4_bestColumn_16 : decode cX4_bestColumn 16 = .ok (.iconst 0, 1) := by decide +kernel
theorem dX4_bestColumn_17 : decode cX4_bestColumn 17 = .ok (.istore_n 3, 1) := by decide +kernel
theorem dX4_bestColumn_18 : decode cX4_bestColumn 18 = .ok (.iload_n 3, 1) := by decide +kernel
theorem dX4_bestColumn_19 : decode cX4_bestColumn 19 = .ok (.aload_n 0, 1) := by decide +kernel
theorem dX4_bestColumn_20 : decode cX4_bestColumn 20 = .ok (.getfield 10, 3) := by decide +kernel
theorem dX4_bestColumn_23 : decode cX4_bestColumn 23 = .ok (.getfield 130, 3) := by decide +kernel
theorem dX4_bestColumn_26 : decode cX4_bestColumn 26 = .ok (.if_icmp .ge 41, 3) := by decide +kernel
theorem dX4_bestColumn_29 : decode cX4_bestColumn 29 = .ok (.aload_n 0, 1) := by decide +kernel
theorem dX4_bestColumn_30 : decode cX4_bestColumn 30 = .ok (.getfield 32, 3) := by decide +kernel
theorem dX4_bestColumn_33 : decode cX4_bestColumn 33 = .ok (.iload_n 3, 1) := by decide +kernel
theorem dX4_bestColumn_34 : decode cX4_bestColumn 34 = .ok (.invokevirtual 63, 3) := by decide +kernel
theorem dX4_bestColumn_37 : decode cX4_bestColumn 37 = .ok (.ifCond .eq 24, 3) := by decide +kernel
theorem dX4_bestColumn_40 : decode cX4_bestColumn 40 = .ok (.aload_n 0, 1) := by decide +kernel
theorem dX4_bestColumn_41 : decode cX4_bestColumn 41 = .ok (.getfield 25, 3) := by decide +kernel
theorem dX4_bestColumn_44 : decode cX4_bestColumn 44 = .ok (.iload_n 3, 1) := by decide +kernel
theorem dX4_bestColumn_45 : decode cX4_bestColumn 45 = .ok (.invokevirtual 124, 3) := by decide +kernel
theorem dX4_bestColumn_48 : decode cX4_bestColumn 48 = .ok (.istore 4, 2) := by decide +kernel
theorem dX4_bestColumn_50 : decode cX4_bestColumn 50 = .ok (.iload 4, 2) := by decide +kernel
theorem dX4_bestColumn_52 : decode cX4_bestColumn 52 = .ok (.iload_n 2, 1) := by decide +kernel
theorem dX4_bestColumn_53 : decode cX4_bestColumn 53 = .ok (.if_icmp .le 8, 3) := by decide +kernel
theorem dX4_bestColumn_56 : decode cX4_bestColumn 56 = .ok (.iload 4, 2) := by decide +kernel
theorem dX4_bestColumn_58 : decode cX4_bestColumn 58 = .ok (.istore_n 2, 1) := by decide +kernel
theorem dX4_bestColumn_59 : decode cX4_bestColumn 59 = .ok (.iload_n 3, 1) := by decide +kernel
theorem dX4_bestColumn_60 : decode cX4_bestColumn 60 = .ok (.istore_n 1, 1) := by decide +kernel
theorem dX4_bestColumn_61 : decode cX4_bestColumn 61 = .ok (.iinc 3 1, 3) := by decide +kernel
theorem dX4_bestColumn_64 : decode cX4_bestColumn 64 = .ok (.goto (-46), 3) := by decide +kernel
theorem dX4_bestColumn_67 : decode cX4_bestColumn 67 = .ok (.iload_n 1, 1) := by decide +kernel
theorem dX4_bestColumn_68 : decode cX4_bestColumn 68 = .ok (.ireturn, 1) := by decide +kernel
theorem dX4_nthSquare_0 : decode cX4_nthSquare 0 = .ok (.iload_n 0, 1) := by decide +kernel
theorem dX4_nthSquare_1 : decode cX4_nthSquare 1 = .ok (.istore_n 2, 1) := by decide +kernel
theorem dX4_nthSquare_2 : decode cX4_nthSquare 2 = .ok (.iconst 0, 1) := by decide +kernel
theorem dX4_nthSquare_3 : decode cX4_nthSquare 3 = .ok (.istore_n 3, 1) := by decide +kernel
theorem dX4_nthSquare_4 : decode cX4_nthSquare 4 = .ok (.iload_n 3, 1) := by decide +kernel
theorem dX4_nthSquare_5 : decode cX4_nthSquare 5 = .ok (.iload_n 1, 1) := by decide +kernel
theorem dX4_nthSquare_6 : decode cX4_nthSquare 6 = .ok (.if_icmp .ge 15, 3) := by decide +kernel
theorem dX4_nthSquare_9 : decode cX4_nthSquare 9 = .ok (.iload_n 2, 1) := by decide +kernel
theorem dX4_nthSquare_10 : decode cX4_nthSquare 10 = .ok (.iload_n 2, 1) := by decide +kernel
theorem dX4_nthSquare_11 : decode cX4_nthSquare 11 = .ok (.iconst 1, 1) := by decide +kernel
theorem dX4_nthSquare_12 : decode cX4_nthSquare 12 = .ok (.isub, 1) := by decide +kernel
theorem dX4_nthSquare_13 : decode cX4_nthSquare 13 = .ok (.iand, 1) := by decide +kernel
theorem dX4_nthSquare_14 : decode cX4_nthSquare 14 = .ok (.istore_n 2, 1) := by decide +kernel
theorem dX4_nthSquare_15 : decode cX4_nthSquare 15 = .ok (.iinc 3 1, 3) := by decide +kernel
theorem dX4_nthSquare_18 : decode cX4_nthSquare 18 = .ok (.goto (-14), 3) := by decide +kernel
theorem dX4_nthSquare_21 : decode cX4_nthSquare 21 = .ok (.iload_n 2, 1) := by decide +kernel
theorem dX4_nthSquare_22 : decode cX4_nthSquare 22 = .ok (.ifCond .ne 7, 3) := by decide +kernel
theorem dX4_nthSquare_25 : decode cX4_nthSquare 25 = .ok (.iconst (-1), 1) := by decide +kernel
theorem dX4_nthSquare_26 : decode cX4_nthSquare 26 = .ok (.goto 12, 3) := by decide +kernel
theorem dX4_nthSquare_29 : decode cX4_nthSquare 29 = .ok (.iload_n 2, 1) := by decide +kernel
theorem dX4_nthSquare_30 : decode cX4_nthSquare 30 = .ok (.iload_n 2, 1) := by decide +kernel
theorem dX4_nthSquare_31 : decode cX4_nthSquare 31 = .ok (.ineg, 1) := by decide +kernel
theorem dX4_nthSquare_32 : decode cX4_nthSquare 32 = .ok (.iand, 1) := by decide +kernel
theorem dX4_nthSquare_33 : decode cX4_nthSquare 33 = .ok (.iconst 1, 1) := by decide +kernel
theorem dX4_nthSquare_34 : decode cX4_nthSquare 34 = .ok (.isub, 1) := by decide +kernel
theorem dX4_nthSquare_35 : decode cX4_nthSquare 35 = .ok (.invokestatic 142, 3) := by decide +kernel
theorem dX4_nthSquare_38 : decode cX4_nthSquare 38 = .ok (.ireturn, 1) := by decide +kernel
