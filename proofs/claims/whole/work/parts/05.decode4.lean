/-! the instructions, decoded -/
theorem dX5_worth_0 : decode cX5_worth 0 = .ok (.aload_n 0, 1) := by decide +kernel
theorem dX5_worth_1 : decode cX5_worth 1 = .ok (.invokevirtual 150, 3) := by decide +kernel
theorem dX5_worth_4 : decode cX5_worth 4 = .ok (.ifCond .eq 9, 3) := by decide +kernel
theorem dX5_worth_7 : decode cX5_worth 7 = .ok (.sipush (-201), 3) := by decide +kernel
theorem dX5_worth_10 : decode cX5_worth 10 = .ok (.goto 12, 3) := by decide +kernel
theorem dX5_worth_13 : decode cX5_worth 13 = .ok (.aload_n 0, 1) := by decide +kernel
theorem dX5_worth_14 : decode cX5_worth 14 = .ok (.getfield 14, 3) := by decide +kernel
theorem dX5_worth_17 : decode cX5_worth 17 = .ok (.aload_n 0, 1) := by decide +kernel
theorem dX5_worth_18 : decode cX5_worth 18 = .ok (.getfield 144, 3) := by decide +kernel
theorem dX5_worth_21 : decode cX5_worth 21 = .ok (.baload, 1) := by decide +kernel
theorem dX5_worth_22 : decode cX5_worth 22 = .ok (.ireturn, 1) := by decide +kernel
theorem dX5_worthOf_0 : decode cX5_worthOf 0 = .ok (.aload_n 0, 1) := by decide +kernel
theorem dX5_worthOf_1 : decode cX5_worthOf 1 = .ok (.invokevirtual 150, 3) := by decide +kernel
theorem dX5_worthOf_4 : decode cX5_worthOf 4 = .ok (.ifCond .eq 7, 3) := by decide +kernel
theorem dX5_worthOf_7 : decode cX5_worthOf 7 = .ok (.sipush (-201), 3) := by decide +kernel
theorem dX5_worthOf_10 : decode cX5_worthOf 10 = .ok (.ireturn, 1) := by decide +kernel
theorem dX5_worthOf_11 : decode cX5_worthOf 11 = .ok (.aload_n 0, 1) := by decide +kernel
theorem dX5_worthOf_12 : decode cX5_worthOf 12 = .ok (.iload_n 1, 1) := by decide +kernel
theorem dX5_worthOf_13 : decode cX5_worthOf 13 = .ok (.invokevirtual 147, 3) := by decide +kernel
theorem dX5_worthOf_16 : decode cX5_worthOf 16 = .ok (.ifCond .eq 21, 3) := by decide +kernel
theorem dX5_worthOf_19 : decode cX5_worthOf 19 = .ok (.aload_n 0, 1) := by decide +kernel
theorem dX5_worthOf_20 : decode cX5_worthOf 20 = .ok (.aload_n 0, 1) := by decide +kernel
theorem dX5_worthOf_21 : decode cX5_worthOf 21 = .ok (.getfield 144, 3) := by decide +kernel
theorem dX5_worthOf_24 : decode cX5_worthOf 24 = .ok (.iload_n 1, 1) := by decide +kernel
theorem dX5_worthOf_25 : decode cX5_worthOf 25 = .ok (.aload_n 0, 1) := by decide +kernel
theorem dX5_worthOf_26 : decode cX5_worthOf 26 = .ok (.getfield 96, 3) := by decide +kernel
theorem dX5_worthOf_29 : decode cX5_worthOf 29 = .ok (.iconst 2, 1) := by decide +kernel
theorem dX5_worthOf_30 : decode cX5_worthOf 30 = .ok (.irem, 1) := by decide +kernel
theorem dX5_worthOf_31 : decode cX5_worthOf 31 = .ok (.invokevirtual 138, 3) := by decide +kernel
theorem dX5_worthOf_34 : decode cX5_worthOf 34 = .ok (.goto 6, 3) := by decide +kernel
theorem dX5_worthOf_37 : decode cX5_worthOf 37 = .ok (.sipush (-200), 3) := by decide +kernel
theorem dX5_worthOf_40 : decode cX5_worthOf 40 = .ok (.ireturn, 1) := by decide +kernel
theorem dX5_bestMove_0 : decode cX5_bestMove 0 = .ok (.iconst 0, 1) := by decide +kernel
theorem dX5_bestMove_1 : decode cX5_bestMove 1 = .ok (.istore_n 1, 1) := by decide +kernel
theorem dX5_bestMove_2 : decode cX5_bestMove 2 = .ok (.aload_n 0, 1) := by decide +kernel
theorem dX5_bestMove_3 : decode cX5_bestMove 3 = .ok (.iload_n 1, 1) := by decide +kernel
theorem dX5_bestMove_4 : decode cX5_bestMove 4 = .ok (.invokevirtual 147, 3) := by decide +kernel
theorem dX5_bestMove_7 : decode cX5_bestMove 7 = .ok (.ifCond .eq 30, 3) := by decide +kernel
theorem dX5_bestMove_10 : decode cX5_bestMove 10 = .ok (.aload_n 0, 1) := by decide +kernel
theorem dX5_bestMove_11 : decode cX5_bestMove 11 = .ok (.aload_n 0, 1) := by decide +kernel
theorem dX5_bestMove_12 : decode cX5_bestMove 12 = .ok (.getfield 144, 3) := by decide +kernel
theorem dX5_bestMove_15 : decode cX5_bestMove 15 = .ok (.iload_n 1, 1) := by decide +kernel
theorem dX5_bestMove_16 : decode cX5_bestMove 16 = .ok (.aload_n 0, 1) := by decide +kernel
theorem dX5_bestMove_17 : decode cX5_bestMove 17 = .ok (.getfield 96, 3) := by decide +kernel
theorem dX5_bestMove_20 : decode cX5_bestMove 20 = .ok (.iconst 2, 1) := by decide +kernel
theorem dX5_bestMove_21 : decode cX5_bestMove 21 = .ok (.irem, 1) := by decide +kernel
theorem dX5_bestMove_22 : decode cX5_bestMove 22 = .ok (.invokevirtual 138, 3) := by decide +kernel
theorem dX5_bestMove_25 : decode cX5_bestMove 25 = .ok (.aload_n 0, 1) := by decide +kernel
theorem dX5_bestMove_26 : decode cX5_bestMove 26 = .ok (.getfield 14, 3) := by decide +kernel
theorem dX5_bestMove_29 : decode cX5_bestMove 29 = .ok (.aload_n 0, 1) := by decide +kernel
theorem dX5_bestMove_30 : decode cX5_bestMove 30 = .ok (.getfield 144, 3) := by decide +kernel
theorem dX5_bestMove_33 : decode cX5_bestMove 33 = .ok (.baload, 1) := by decide +kernel
theorem dX5_bestMove_34 : decode cX5_bestMove 34 = .ok (.if_icmp .eq 9, 3) := by decide +kernel
theorem dX5_bestMove_37 : decode cX5_bestMove 37 = .ok (.iinc 1 1, 3) := by decide +kernel
theorem dX5_bestMove_40 : decode cX5_bestMove 40 = .ok (.goto (-38), 3) := by decide +kernel
theorem dX5_bestMove_43 : decode cX5_bestMove 43 = .ok (.iload_n 1, 1) := by decide +kernel
theorem dX5_bestMove_44 : decode cX5_bestMove 44 = .ok (.ireturn, 1) := by decide +kernel
theorem dX5_best_0 : decode cX5_best 0 = .ok (.aload_n 0, 1) := by decide +kernel
theorem dX5_best_1 : decode cX5_best 1 = .ok (.invokevirtual 150, 3) := by decide +kernel
theorem dX5_best_4 : decode cX5_best 4 = .ok (.ifCond .eq 9, 3) := by decide +kernel
theorem dX5_best_7 : decode cX5_best 7 = .ok (.sipush (-201), 3) := by decide +kernel
theorem dX5_best_10 : decode cX5_best 10 = .ok (.goto 7, 3) := by decide +kernel
theorem dX5_best_13 : decode cX5_best 13 = .ok (.aload_n 0, 1) := by decide +kernel
theorem dX5_best_14 : decode cX5_best 14 = .ok (.invokevirtual 164, 3) := by decide +kernel
theorem dX5_best_17 : decode cX5_best 17 = .ok (.ireturn, 1) := by decide +kernel
theorem dX5_as_0 : decode cX5_as 0 = .ok (.aload_n 0, 1) := by decide +kernel
theorem dX5_as_1 : decode cX5_as 1 = .ok (.invokevirtual 150, 3) := by decide +kernel
theorem dX5_as_4 : decode cX5_as 4 = .ok (.ifCond .eq 7, 3) := by decide +kernel
theorem dX5_as_7 : decode cX5_as 7 = .ok (.sipush (-201), 3) := by decide +kernel
theorem dX5_as_10 : decode cX5_as 10 = .ok (.ireturn, 1) := by decide +kernel
theorem dX5_as_11 : decode cX5_as 11 = .ok (.iconst 0, 1) := by decide +kernel
theorem dX5_as_12 : decode cX5_as 12 = .ok (.istore_n 1, 1) := by decide +kernel
theorem dX5_as_13 : decode cX5_as 13 = .ok (.iconst 0, 1) := by decide +kernel
theorem dX5_as_14 : decode cX5_as 14 = .ok (.istore_n 2, 1) := by decide +kernel
theorem dX5_as_15 : decode cX5_as 15 = .ok (.iload_n 2, 1) := by decide +kernel
theorem dX5_as_16 : decode cX5_as 16 = .ok (.aload_n 0, 1) := by decide +kernel
theorem dX5_as_17 : decode cX5_as 17 = .ok (.getfield 74, 3) := by decide +kernel
theorem dX5_as_20 : decode cX5_as 20 = .ok (.if_icmp .ge 52, 3) := by decide +kernel
theorem dX5_as_23 : decode cX5_as 23 = .ok (.iload_n 1, 1) := by decide +kernel
theorem dX5_as_24 : decode cX5_as 24 = .ok (.aload_n 0, 1) := by decide +kernel
theorem dX5_as_25 : decode cX5_as 25 = .ok (.iload_n 2, 1) := by decide +kernel
theorem dX5_as_26 : decode cX5_as 26 = .ok (.invokevirtual 147, 3) := by decide +kernel
theorem dX5_as_29 : decode cX5_as 29 = .ok (.ifCond .eq 34, 3) := by decide +kernel
theorem dX5_as_32 : decode cX5_as 32 = .ok (.aload_n 0, 1) := by decide +kernel
theorem dX5_as_33 : decode cX5_as 33 = .ok (.aload_n 0, 1) := by decide +kernel
theorem dX5_as_34 : decode cX5_as 34 = .ok (.getfield 144, 3) := by decide +kernel
theorem dX5_as_37 : decode cX5_as 37 = .ok (.iload_n 2, 1) := by decide +kernel
theorem dX5_as_38 : decode cX5_as 38 = .ok (.aload_n 0, 1) := by decide +kernel
theorem dX5_as_39 : decode cX5_as 39 = .ok (.getfield 96, 3) := by decide +kernel
theorem dX5_as_42 : decode cX5_as 42 = .ok (.iconst 2, 1) := by decide +kernel
theorem dX5_as_43 : decode cX5_as 43 = .ok (.irem, 1) := by decide +kernel
theorem dX5_as_44 : decode cX5_as 44 = .ok (.invokevirtual 138, 3) := by decide +kernel
theorem dX5_as_47 : decode cX5_as 47 = .ok (.aload_n 0, 1) := by decide +kernel
theorem dX5_as_48 : decode cX5_as 48 = .ok (.getfield 14, 3) := by decide +kernel
theorem dX5_as_51 : decode cX5_as 51 = .ok (.aload_n 0, 1) := by decide +kernel
theorem dX5_as_52 : decode cX5_as 52 = .ok (.getfield 144, 3) := by decide +kernel
theorem dX5_as_55 : decode cX5_as 55 = .ok (.baload, 1) := by decide +kernel
theorem dX5_as_56 : decode cX5_as 56 = .ok (.if_icmp .ne 7, 3) := by decide +kernel
theorem dX5_as_59 : decode cX5_as 59 = .ok (.iconst 1, 1) := by decide +kernel
theorem dX5_as_60 : decode cX5_as 60 = .ok (.goto 4, 3) := by decide +kernel
theorem dX5_as_63 : decode cX5_as 63 = .ok (.iconst 0, 1) := by decide +kernel
theorem dX5_as_64 : decode cX5_as 64 = .ok (.iadd, 1) := by decide +kernel
theorem dX5_as_65 : decode cX5_as 65 = .ok (.istore_n 1, 1) := by decide +kernel
theorem dX5_as_66 : decode cX5_as 66 = .ok (.iinc 2 1, 3) := by decide +kernel
theorem dX5_as_69 : decode cX5_as 69 = .ok (.goto (-54), 3) := by decide +kernel
theorem dX5_as_72 : decode cX5_as 72 = .ok (.iload_n 1, 1) := by decide +kernel
theorem dX5_as_73 : decode cX5_as 73 = .ok (.ireturn, 1) := by decide +kernel
theorem dX5_play_0 : decode cX5_play 0 = .ok (.aload_n 0, 1) := by decide +kernel
theorem dX5_play_1 : decode cX5_play 1 = .ok (.invokevirtual 150, 3) := by decide +kernel
theorem dX5_play_4 : decode cX5_play 4 = .ok (.ifCond .eq 7, 3) := by decide +kernel
theorem dX5_play_7 : decode cX5_play 7 = .ok (.sipush (-201), 3) := by decide +kernel
theorem dX5_play_10 : decode cX5_play 10 = .ok (.ireturn, 1) := by decide +kernel
theorem dX5_play_11 : decode cX5_play 11 = .ok (.iconst 0, 1) := by decide +kernel
theorem dX5_play_12 : decode cX5_play 12 = .ok (.istore_n 1, 1) := by decide +kernel
theorem dX5_play_13 : decode cX5_play 13 = .ok (.aload_n 0, 1) := by decide +kernel
theorem dX5_play_14 : decode cX5_play 14 = .ok (.invokevirtual 150, 3) := by decide +kernel
theorem dX5_play_17 : decode cX5_play 17 = .ok (.ifCond .ne 17, 3) := by decide +kernel
theorem dX5_play_20 : decode cX5_play 20 = .ok (.aload_n 0, 1) := by decide +kernel
theorem dX5_play_21 : decode cX5_play 21 = .ok (.aload_n 0, 1) := by decide +kernel
theorem dX5_play_22 : decode cX5_play 22 = .ok (.invokevirtual 164, 3) := by decide +kernel
theorem dX5_play_25 : decode cX5_play 25 = .ok (.invokevirtual 154, 3) := by decide +kernel
theorem dX5_play_28 : decode cX5_play 28 = .ok (.iinc 1 1, 3) := by decide +kernel
theorem dX5_play_31 : decode cX5_play 31 = .ok (.goto (-18), 3) := by decide +kernel
theorem dX5_play_34 : decode cX5_play 34 = .ok (.iload_n 1, 1) := by decide +kernel
theorem dX5_play_35 : decode cX5_play 35 = .ok (.ireturn, 1) := by decide +kernel
theorem dX5_positions_0 : decode cX5_positions 0 = .ok (.iload_n 1, 1) := by decide +kernel
theorem dX5_positions_1 : decode cX5_positions 1 = .ok (.i2l, 1) := by decide +kernel
theorem dX5_positions_2 : decode cX5_positions 2 = .ok (.lconst 0, 1) := by decide +kernel
theorem dX5_positions_3 : decode cX5_positions 3 = .ok (.aload_n 0, 1) := by decide +kernel
theorem dX5_positions_4 : decode cX5_positions 4 = .ok (.getfield 74, 3) := by decide +kernel
theorem dX5_positions_7 : decode cX5_positions 7 = .ok (.aload_n 0, 1) := by decide +kernel
theorem dX5_positions_8 : decode cX5_positions 8 = .ok (.getfield 77, 3) := by decide +kernel
theorem dX5_positions_11 : decode cX5_positions 11 = .ok (.imul, 1) := by decide +kernel
theorem dX5_positions_12 : decode cX5_positions 12 = .ok (.i2l, 1) := by decide +kernel
theorem dX5_positions_13 : decode cX5_positions 13 = .ok (.invokestatic 57, 3) := by decide +kernel
theorem dX5_positions_16 : decode cX5_positions 16 = .ok (.ifCond .eq 12, 3) := by decide +kernel
theorem dX5_positions_19 : decode cX5_positions 19 = .ok (.aload_n 0, 1) := by decide +kernel
theorem dX5_positions_20 : decode cX5_positions 20 = .ok (.getfield 18, 3) := by decide +kernel
theorem dX5_positions_23 : decode cX5_positions 23 = .ok (.iload_n 1, 1) := by decide +kernel
theorem dX5_positions_24 : decode cX5_positions 24 = .ok (.iaload, 1) := by decide +kernel
theorem dX5_positions_25 : decode cX5_positions 25 = .ok (.goto 6, 3) := by decide +kernel
theorem dX5_positions_28 : decode cX5_positions 28 = .ok (.sipush (-200), 3) := by decide +kernel
theorem dX5_positions_31 : decode cX5_positions 31 = .ok (.ireturn, 1) := by decide +kernel
theorem dX5_wins_0 : decode cX5_wins 0 = .ok (.iload_n 1, 1) := by decide +kernel
theorem dX5_wins_1 : decode cX5_wins 1 = .ok (.i2l, 1) := by decide +kernel
theorem dX5_wins_2 : decode cX5_wins 2 = .ok (.lconst 0, 1) := by decide +kernel
theorem dX5_wins_3 : decode cX5_wins 3 = .ok (.aload_n 0, 1) := by decide +kernel
theorem dX5_wins_4 : decode cX5_wins 4 = .ok (.getfield 74, 3) := by decide +kernel
theorem dX5_wins_7 : decode cX5_wins 7 = .ok (.aload_n 0, 1) := by decide +kernel
theorem dX5_wins_8 : decode cX5_wins 8 = .ok (.getfield 77, 3) := by decide +kernel
theorem dX5_wins_11 : decode cX5_wins 11 = .ok (.imul, 1) := by decide +kernel
theorem dX5_wins_12 : decode cX5_wins 12 = .ok (.i2l, 1) := by decide +kernel
theorem dX5_wins_13 : decode cX5_wins 13 = .ok (.invokestatic 57, 3) := by decide +kernel
theorem dX5_wins_16 : decode cX5_wins 16 = .ok (.ifCond .eq 12, 3) := by decide +kernel
theorem dX5_wins_19 : decode cX5_wins 19 = .ok (.aload_n 0, 1) := by decide +kernel
theorem dX5_wins_20 : decode cX5_wins 20 = .ok (.getfield 21, 3) := by decide +kernel
theorem dX5_wins_23 : decode cX5_wins 23 = .ok (.iload_n 1, 1) := by decide +kernel
theorem dX5_wins_24 : decode cX5_wins 24 = .ok (.iaload, 1) := by decide +kernel
theorem dX5_wins_25 : decode cX5_wins 25 = .ok (.goto 6, 3) := by decide +kernel
theorem dX5_wins_28 : decode cX5_wins 28 = .ok (.sipush (-200), 3) := by decide +kernel
theorem dX5_wins_31 : decode cX5_wins 31 = .ok (.ireturn, 1) := by decide +kernel
theorem dX5_share_0 : decode cX5_share 0 = .ok (.iload_n 1, 1) := by decide +kernel
theorem dX5_share_1 : decode cX5_share 1 = .ok (.i2l, 1) := by decide +kernel
theorem dX5_share_2 : decode cX5_share 2 = .ok (.lconst 0, 1) := by decide +kernel
theorem dX5_share_3 : decode cX5_share 3 = .ok (.aload_n 0, 1) := by decide +kernel
theorem dX5_share_4 : decode cX5_share 4 = .ok (.getfield 74, 3) := by decide +kernel
theorem dX5_share_7 : decode cX5_share 7 = .ok (.aload_n 0, 1) := by decide +kernel
theorem dX5_share_8 : decode cX5_share 8 = .ok (.getfield 77, 3) := by decide +kernel
theorem dX5_share_11 : decode cX5_share 11 = .ok (.imul, 1) := by decide +kernel
theorem dX5_share_12 : decode cX5_share 12 = .ok (.i2l, 1) := by decide +kernel
theorem dX5_share_13 : decode cX5_share 13 = .ok (.invokestatic 57, 3) := by decide +kernel
theorem dX5_share_16 : decode cX5_share 16 = .ok (.ifCond .eq 15, 3) := by decide +kernel
theorem dX5_share_19 : decode cX5_share 19 = .ok (.iload_n 2, 1) := by decide +kernel
theorem dX5_share_20 : decode cX5_share 20 = .ok (.i2l, 1) := by decide +kernel
theorem dX5_share_21 : decode cX5_share 21 = .ok (.ldc2_w 167, 3) := by decide +kernel
theorem dX5_share_24 : decode cX5_share 24 = .ok (.lconst 1, 1) := by decide +kernel
theorem dX5_share_25 : decode cX5_share 25 = .ok (.invokestatic 57, 3) := by decide +kernel
theorem dX5_share_28 : decode cX5_share 28 = .ok (.ifCond .ne 7, 3) := by decide +kernel
theorem dX5_share_31 : decode cX5_share 31 = .ok (.sipush (-200), 3) := by decide +kernel
theorem dX5_share_34 : decode cX5_share 34 = .ok (.ireturn, 1) := by decide +kernel
theorem dX5_share_35 : decode cX5_share 35 = .ok (.iload_n 2, 1) := by decide +kernel
theorem dX5_share_36 : decode cX5_share 36 = .ok (.ifCond .le 12, 3) := by decide +kernel
theorem dX5_share_39 : decode cX5_share 39 = .ok (.aload_n 0, 1) := by decide +kernel
theorem dX5_share_40 : decode cX5_share 40 = .ok (.getfield 24, 3) := by decide +kernel
theorem dX5_share_43 : decode cX5_share 43 = .ok (.iload_n 1, 1) := by decide +kernel
theorem dX5_share_44 : decode cX5_share 44 = .ok (.iaload, 1) := by decide +kernel
theorem dX5_share_45 : decode cX5_share 45 = .ok (.goto 22, 3) := by decide +kernel
theorem dX5_share_48 : decode cX5_share 48 = .ok (.iload_n 2, 1) := by decide +kernel
theorem dX5_share_49 : decode cX5_share 49 = .ok (.ifCond .ne 12, 3) := by decide +kernel
theorem dX5_share_52 : decode cX5_share 52 = .ok (.aload_n 0, 1) := by decide +kernel
theorem dX5_share_53 : decode cX5_share 53 = .ok (.getfield 27, 3) := by decide +kernel
theorem dX5_share_56 : decode cX5_share 56 = .ok (.iload_n 1, 1) := by decide +kernel
theorem dX5_share_57 : decode cX5_share 57 = .ok (.iaload, 1) := by decide +kernel
theorem dX5_share_58 : decode cX5_share 58 = .ok (.goto 9, 3) := by decide +kernel
theorem dX5_share_61 : decode cX5_share 61 = .ok (.aload_n 0, 1) := by decide +kernel
theorem dX5_share_62 : decode cX5_share 62 = .ok (.getfield 30, 3) := by decide +kernel
theorem dX5_share_65 : decode cX5_share 65 = .ok (.iload_n 1, 1) := by decide +kernel
theorem dX5_share_66 : decode cX5_share 66 = .ok (.iaload, 1) := by decide +kernel
theorem dX5_share_67 : decode cX5_share 67 = .ok (.ireturn, 1) := by decide +kernel
theorem dX5_even_0 : decode cX5_even 0 = .ok (.iconst 1, 1) := by decide +kernel
theorem dX5_even_1 : decode cX5_even 1 = .ok (.istore_n 1, 1) := by decide +kernel
theorem dX5_even_2 : decode cX5_even 2 = .ok (.iconst 0, 1) := by decide +kernel
theorem dX5_even_3 : decode cX5_even 3 = .ok (.istore_n 2, 1) := by decide +kernel
theorem dX5_even_4 : decode cX5_even 4 = .ok (.iload_n 2, 1) := by decide +kernel
theorem dX5_even_5 : decode cX5_even 5 = .ok (.aload_n 0, 1) := by decide +kernel
theorem dX5_even_6 : decode cX5_even 6 = .ok (.getfield 74, 3) := by decide +kernel
theorem dX5_even_9 : decode cX5_even 9 = .ok (.if_icmp .ge 47, 3) := by decide +kernel
theorem dX5_even_12 : decode cX5_even 12 = .ok (.iload_n 1, 1) := by decide +kernel
theorem dX5_even_13 : decode cX5_even 13 = .ok (.ifCond .eq 35, 3) := by decide +kernel
theorem dX5_even_16 : decode cX5_even 16 = .ok (.aload_n 0, 1) := by decide +kernel
theorem dX5_even_17 : decode cX5_even 17 = .ok (.aload_n 0, 1) := by decide +kernel
theorem dX5_even_18 : decode cX5_even 18 = .ok (.getfield 144, 3) := by decide +kernel
theorem dX5_even_21 : decode cX5_even 21 = .ok (.iload_n 2, 1) := by decide +kernel
theorem dX5_even_22 : decode cX5_even 22 = .ok (.invokevirtual 110, 3) := by decide +kernel
theorem dX5_even_25 : decode cX5_even 25 = .ok (.aload_n 0, 1) := by decide +kernel
theorem dX5_even_26 : decode cX5_even 26 = .ok (.aload_n 0, 1) := by decide +kernel
theorem dX5_even_27 : decode cX5_even 27 = .ok (.getfield 144, 3) := by decide +kernel
theorem dX5_even_30 : decode cX5_even 30 = .ok (.aload_n 0, 1) := by decide +kernel
theorem dX5_even_31 : decode cX5_even 31 = .ok (.getfield 74, 3) := by decide +kernel
theorem dX5_even_34 : decode cX5_even 34 = .ok (.iconst 1, 1) := by decide +kernel
theorem dX5_even_35 : decode cX5_even 35 = .ok (.isub, 1) := by decide +kernel
theorem dX5_even_36 : decode cX5_even 36 = .ok (.iload_n 2, 1) := by decide +kernel
theorem dX5_even_37 : decode cX5_even 37 = .ok (.isub, 1) := by decide +kernel
theorem dX5_even_38 : decode cX5_even 38 = .ok (.invokevirtual 110, 3) := by decide +kernel
theorem dX5_even_41 : decode cX5_even 41 = .ok (.if_icmp .ne 7, 3) := by decide +kernel
theorem dX5_even_44 : decode cX5_even 44 = .ok (.iconst 1, 1) := by decide +kernel
theorem dX5_even_45 : decode cX5_even 45 = .ok (.goto 4, 3) := by decide +kernel
theorem dX5_even_48 : decode cX5_even 48 = .ok (.iconst 0, 1) := by decide +kernel
theorem dX5_even_49 : decode cX5_even 49 = .ok (.istore_n 1, 1) := by decide +kernel
theorem dX5_even_50 : decode cX5_even 50 = .ok (.iinc 2 1, 3) := by decide +kernel
theorem dX5_even_53 : decode cX5_even 53 = .ok (.goto (-49), 3) := by decide +kernel
theorem dX5_even_56 : decode cX5_even 56 = .ok (.iload_n 1, 1) := by decide +kernel
theorem dX5_even_57 : decode cX5_even 57 = .ok (.ifCond .eq 7, 3) := by decide +kernel
theorem dX5_even_60 : decode cX5_even 60 = .ok (.iconst 1, 1) := by decide +kernel
theorem dX5_even_61 : decode cX5_even 61 = .ok (.goto 4, 3) := by decide +kernel
theorem dX5_even_64 : decode cX5_even 64 = .ok (.iconst 0, 1) := by decide +kernel
theorem dX5_even_65 : decode cX5_even 65 = .ok (.ireturn, 1) := by decide +kernel
theorem dX5_threatsOf_0 : decode cX5_threatsOf 0 = .ok (.iconst 0, 1) := by decide +kernel
theorem dX5_threatsOf_1 : decode cX5_threatsOf 1 = .ok (.istore_n 2, 1) := by decide +kernel
theorem dX5_threatsOf_2 : decode cX5_threatsOf 2 = .ok (.iconst 0, 1) := by decide +kernel
theorem dX5_threatsOf_3 : decode cX5_threatsOf 3 = .ok (.istore_n 3, 1) := by decide +kernel
theorem dX5_threatsOf_4 : decode cX5_threatsOf 4 = .ok (.iload_n 3, 1) := by decide +kernel
theorem dX5_threatsOf_5 : decode cX5_threatsOf 5 = .ok (.aload_n 0, 1) := by decide +kernel
theorem dX5_threatsOf_6 : decode cX5_threatsOf 6 = .ok (.getfield 74, 3) := by decide +kernel
theorem dX5_threatsOf_9 : decode cX5_threatsOf 9 = .ok (.aload_n 0, 1) := by decide +kernel
theorem dX5_threatsOf_10 : decode cX5_threatsOf 10 = .ok (.getfield 77, 3) := by decide +kernel
theorem dX5_threatsOf_13 : decode cX5_threatsOf 13 = .ok (.imul, 1) := by decide +kernel
theorem dX5_threatsOf_14 : decode cX5_threatsOf 14 = .ok (.if_icmp .ge 70, 3) := by decide +kernel
theorem dX5_threatsOf_17 : decode cX5_threatsOf 17 = .ok (.iconst 1, 1) := by decide +kernel
theorem dX5_threatsOf_18 : decode cX5_threatsOf 18 = .ok (.iload_n 3, 1) := by decide +kernel
theorem dX5_threatsOf_19 : decode cX5_threatsOf 19 = .ok (.ishl, 1) := by decide +kernel
theorem dX5_threatsOf_20 : decode cX5_threatsOf 20 = .ok (.istore 4, 2) := by decide +kernel
theorem dX5_threatsOf_22 : decode cX5_threatsOf 22 = .ok (.aload_n 0, 1) := by decide +kernel
theorem dX5_threatsOf_23 : decode cX5_threatsOf 23 = .ok (.getfield 33, 3) := by decide +kernel
theorem dX5_threatsOf_26 : decode cX5_threatsOf 26 = .ok (.iconst 0, 1) := by decide +kernel
theorem dX5_threatsOf_27 : decode cX5_threatsOf 27 = .ok (.iaload, 1) := by decide +kernel
theorem dX5_threatsOf_28 : decode cX5_threatsOf 28 = .ok (.aload_n 0, 1) := by decide +kernel
theorem dX5_threatsOf_29 : decode cX5_threatsOf 29 = .ok (.getfield 33, 3) := by decide +kernel
theorem dX5_threatsOf_32 : decode cX5_threatsOf 32 = .ok (.iconst 1, 1) := by decide +kernel
theorem dX5_threatsOf_33 : decode cX5_threatsOf 33 = .ok (.iaload, 1) := by decide +kernel
theorem dX5_threatsOf_34 : decode cX5_threatsOf 34 = .ok (.ior, 1) := by decide +kernel
theorem dX5_threatsOf_35 : decode cX5_threatsOf 35 = .ok (.iload 4, 2) := by decide +kernel
theorem dX5_threatsOf_37 : decode cX5_threatsOf 37 = .ok (.iand, 1) := by decide +kernel
theorem dX5_threatsOf_38 : decode cX5_threatsOf 38 = .ok (.ifCond .ne 7, 3) := by decide +kernel
theorem dX5_threatsOf_41 : decode cX5_threatsOf 41 = .ok (.iconst 1, 1) := by decide +kernel
theorem dX5_threatsOf_42 : decode cX5_threatsOf 42 = .ok (.goto 4, 3) := by decide +kernel
theorem dX5_threatsOf_45 : decode cX5_threatsOf 45 = .ok (.iconst 0, 1) := by decide +kernel
theorem dX5_threatsOf_46 : decode cX5_threatsOf 46 = .ok (.istore 5, 2) := by decide +kernel
theorem dX5_threatsOf_48 : decode cX5_threatsOf 48 = .ok (.iload_n 2, 1) := by decide +kernel
theorem dX5_threatsOf_49 : decode cX5_threatsOf 49 = .ok (.iload 5, 2) := by decide +kernel
theorem dX5_threatsOf_51 : decode cX5_threatsOf 51 = .ok (.ifCond .eq 24, 3) := by decide +kernel
theorem dX5_threatsOf_54 : decode cX5_threatsOf 54 = .ok (.aload_n 0, 1) := by decide +kernel
theorem dX5_threatsOf_55 : decode cX5_threatsOf 55 = .ok (.aload_n 0, 1) := by decide +kernel
theorem dX5_threatsOf_56 : decode cX5_threatsOf 56 = .ok (.getfield 33, 3) := by decide +kernel
theorem dX5_threatsOf_59 : decode cX5_threatsOf 59 = .ok (.iload_n 1, 1) := by decide +kernel
theorem dX5_threatsOf_60 : decode cX5_threatsOf 60 = .ok (.iaload, 1) := by decide +kernel
theorem dX5_threatsOf_61 : decode cX5_threatsOf 61 = .ok (.iload 4, 2) := by decide +kernel
theorem dX5_threatsOf_63 : decode cX5_threatsOf 63 = .ok (.ior, 1) := by decide +kernel
theorem dX5_threatsOf_64 : decode cX5_threatsOf 64 = .ok (.invokevirtual 130, 3) := by decide +kernel
theorem dX5_threatsOf_67 : decode cX5_threatsOf 67 = .ok (.ifCond .eq 8, 3) := by decide +kernel
theorem dX5_threatsOf_70 : decode cX5_threatsOf 70 = .ok (.iload 4, 2) := by decide +kernel
theorem dX5_threatsOf_72 : decode cX5_threatsOf 72 = .ok (.goto 4, 3) := by decide +kernel
theorem dX5_threatsOf_75 : decode cX5_threatsOf 75 = .ok (.iconst 0, 1) := by decide +kernel
theorem dX5_threatsOf_76 : decode cX5_threatsOf 76 = .ok (.ior, 1) := by decide +kernel
theorem dX5_threatsOf_77 : decode cX5_threatsOf 77 = .ok (.istore_n 2, 1) := by decide +kernel
theorem dX5_threatsOf_78 : decode cX5_threatsOf 78 = .ok (.iinc 3 1, 3) := by decide +kernel
theorem dX5_threatsOf_81 : decode cX5_threatsOf 81 = .ok (.goto (-77), 3) := by decide +kernel
theorem dX5_threatsOf_84 : decode cX5_threatsOf 84 = .ok (.iload_n 2, 1) := by decide +kernel
theorem dX5_threatsOf_85 : decode cX5_threatsOf 85 = .ok (.ireturn, 1) := by decide +kernel
theorem dX5_threats_0 : decode cX5_threats 0 = .ok (.iload_n 1, 1) := by decide +kernel
theorem dX5_threats_1 : decode cX5_threats 1 = .ok (.i2l, 1) := by decide +kernel
theorem dX5_threats_2 : decode cX5_threats 2 = .ok (.lconst 0, 1) := by decide +kernel
theorem dX5_threats_3 : decode cX5_threats 3 = .ok (.lconst 1, 1) := by decide +kernel
theorem dX5_threats_4 : decode cX5_threats 4 = .ok (.invokestatic 57, 3) := by decide +kernel
theorem dX5_threats_7 : decode cX5_threats 7 = .ok (.ifCond .ne 7, 3) := by decide +kernel
theorem dX5_threats_10 : decode cX5_threats 10 = .ok (.sipush (-200), 3) := by decide +kernel
theorem dX5_threats_13 : decode cX5_threats 13 = .ok (.ireturn, 1) := by decide +kernel
theorem dX5_threats_14 : decode cX5_threats 14 = .ok (.aload_n 0, 1) := by decide +kernel
theorem dX5_threats_15 : decode cX5_threats 15 = .ok (.aload_n 0, 1) := by decide +kernel
theorem dX5_threats_16 : decode cX5_threats 16 = .ok (.getfield 144, 3) := by decide +kernel
theorem dX5_threats_19 : decode cX5_threats 19 = .ok (.invokevirtual 127, 3) := by decide +kernel
theorem dX5_threats_22 : decode cX5_threats 22 = .ok (.aload_n 0, 1) := by decide +kernel
theorem dX5_threats_23 : decode cX5_threats 23 = .ok (.iload_n 1, 1) := by decide +kernel
theorem dX5_threats_24 : decode cX5_threats 24 = .ok (.invokevirtual 169, 3) := by decide +kernel
theorem dX5_threats_27 : decode cX5_threats 27 = .ok (.istore_n 2, 1) := by decide +kernel
theorem dX5_threats_28 : decode cX5_threats 28 = .ok (.iconst 0, 1) := by decide +kernel
theorem dX5_threats_29 : decode cX5_threats 29 = .ok (.istore_n 3, 1) := by decide +kernel
theorem dX5_threats_30 : decode cX5_threats 30 = .ok (.iload_n 2, 1) := by decide +kernel
theorem dX5_threats_31 : decode cX5_threats 31 = .ok (.ifCond .eq 16, 3) := by decide +kernel
theorem dX5_threats_34 : decode cX5_threats 34 = .ok (.iload_n 3, 1) := by decide +kernel
theorem dX5_threats_35 : decode cX5_threats 35 = .ok (.iload_n 2, 1) := by decide +kernel
theorem dX5_threats_36 : decode cX5_threats 36 = .ok (.iconst 1, 1) := by decide +kernel
theorem dX5_threats_37 : decode cX5_threats 37 = .ok (.iand, 1) := by decide +kernel
theorem dX5_threats_38 : decode cX5_threats 38 = .ok (.iadd, 1) := by decide +kernel
theorem dX5_threats_39 : decode cX5_threats 39 = .ok (.istore_n 3, 1) := by decide +kernel
theorem dX5_threats_40 : decode cX5_threats 40 = .ok (.iload_n 2, 1) := by decide +kernel
theorem dX5_threats_41 : decode cX5_threats 41 = .ok (.iconst 1, 1) := by decide +kernel
theorem dX5_threats_42 : decode cX5_threats 42 = .ok (.ishr, 1) := by decide +kernel
theorem dX5_threats_43 : decode cX5_threats 43 = .ok (.istore_n 2, 1) := by decide +kernel
theorem dX5_threats_44 : decode cX5_threats 44 = .ok (.goto (-14), 3) := by decide +kernel
theorem dX5_threats_47 : decode cX5_threats 47 = .ok (.iload_n 3, 1) := by decide +kernel
theorem dX5_threats_48 : decode cX5_threats 48 = .ok (.ireturn, 1) := by decide +kernel
theorem dX5_threat_0 : decode cX5_threat 0 = .ok (.iload_n 1, 1) := by decide +kernel
theorem dX5_threat_1 : decode cX5_threat 1 = .ok (.i2l, 1) := by decide +kernel
theorem dX5_threat_2 : decode cX5_threat 2 = .ok (.lconst 0, 1) := by decide +kernel
theorem dX5_threat_3 : decode cX5_threat 3 = .ok (.lconst 1, 1) := by decide +kernel
theorem dX5_threat_4 : decode cX5_threat 4 = .ok (.invokestatic 57, 3) := by decide +kernel
theorem dX5_threat_7 : decode cX5_threat 7 = .ok (.ifCond .ne 7, 3) := by decide +kernel
theorem dX5_threat_10 : decode cX5_threat 10 = .ok (.sipush (-200), 3) := by decide +kernel
theorem dX5_threat_13 : decode cX5_threat 13 = .ok (.ireturn, 1) := by decide +kernel
theorem dX5_threat_14 : decode cX5_threat 14 = .ok (.aload_n 0, 1) := by decide +kernel
theorem dX5_threat_15 : decode cX5_threat 15 = .ok (.aload_n 0, 1) := by decide +kernel
theorem dX5_threat_16 : decode cX5_threat 16 = .ok (.getfield 144, 3) := by decide +kernel
theorem dX5_threat_19 : decode cX5_threat 19 = .ok (.invokevirtual 127, 3) := by decide +kernel
theorem dX5_threat_22 : decode cX5_threat 22 = .ok (.aload_n 0, 1) := by decide +kernel
theorem dX5_threat_23 : decode cX5_threat 23 = .ok (.iload_n 1, 1) := by decide +kernel
theorem dX5_threat_24 : decode cX5_threat 24 = .ok (.invokevirtual 169, 3) := by decide +kernel
theorem dX5_threat_27 : decode cX5_threat 27 = .ok (.iload_n 2, 1) := by decide +kernel
theorem dX5_threat_28 : decode cX5_threat 28 = .ok (.invokestatic 157, 3) := by decide +kernel
theorem dX5_threat_31 : decode cX5_threat 31 = .ok (.istore_n 3, 1) := by decide +kernel
theorem dX5_threat_32 : decode cX5_threat 32 = .ok (.iload_n 3, 1) := by decide +kernel
theorem dX5_threat_33 : decode cX5_threat 33 = .ok (.iconst (-1), 1) := by decide +kernel
theorem dX5_threat_34 : decode cX5_threat 34 = .ok (.if_icmp .ne 9, 3) := by decide +kernel
theorem dX5_threat_37 : decode cX5_threat 37 = .ok (.sipush (-200), 3) := by decide +kernel
theorem dX5_threat_40 : decode cX5_threat 40 = .ok (.goto 4, 3) := by decide +kernel
theorem dX5_threat_43 : decode cX5_threat 43 = .ok (.iload_n 3, 1) := by decide +kernel
theorem dX5_threat_44 : decode cX5_threat 44 = .ok (.ireturn, 1) := by decide +kernel
theorem dX5_sortOf_0 : decode cX5_sortOf 0 = .ok (.aload_n 0, 1) := by decide +kernel
theorem dX5_sortOf_1 : decode cX5_sortOf 1 = .ok (.iload_n 1, 1) := by decide +kernel
theorem dX5_sortOf_2 : decode cX5_sortOf 2 = .ok (.iload_n 2, 1) := by decide +kernel
theorem dX5_sortOf_3 : decode cX5_sortOf 3 = .ok (.invokevirtual 114, 3) := by decide +kernel
theorem dX5_sortOf_6 : decode cX5_sortOf 6 = .ok (.istore 5, 2) := by decide +kernel
theorem dX5_sortOf_8 : decode cX5_sortOf 8 = .ok (.iconst 1, 1) := by decide +kernel
theorem dX5_sortOf_9 : decode cX5_sortOf 9 = .ok (.aload_n 0, 1) := by decide +kernel
theorem dX5_sortOf_10 : decode cX5_sortOf 10 = .ok (.getfield 74, 3) := by decide +kernel
theorem dX5_sortOf_13 : decode cX5_sortOf 13 = .ok (.iload 5, 2) := by decide +kernel
theorem dX5_sortOf_15 : decode cX5_sortOf 15 = .ok (.imul, 1) := by decide +kernel
theorem dX5_sortOf_16 : decode cX5_sortOf 16 = .ok (.iload_n 2, 1) := by decide +kernel
theorem dX5_sortOf_17 : decode cX5_sortOf 17 = .ok (.iadd, 1) := by decide +kernel
theorem dX5_sortOf_18 : decode cX5_sortOf 18 = .ok (.ishl, 1) := by decide +kernel
theorem dX5_sortOf_19 : decode cX5_sortOf 19 = .ok (.istore 6, 2) := by decide +kernel
theorem dX5_sortOf_21 : decode cX5_sortOf 21 = .ok (.iload 5, 2) := by decide +kernel
theorem dX5_sortOf_23 : decode cX5_sortOf 23 = .ok (.iconst 1, 1) := by decide +kernel
theorem dX5_sortOf_24 : decode cX5_sortOf 24 = .ok (.iadd, 1) := by decide +kernel
theorem dX5_sortOf_25 : decode cX5_sortOf 25 = .ok (.aload_n 0, 1) := by decide +kernel
theorem dX5_sortOf_26 : decode cX5_sortOf 26 = .ok (.getfield 77, 3) := by decide +kernel
theorem dX5_sortOf_29 : decode cX5_sortOf 29 = .ok (.if_icmp .ge 19, 3) := by decide +kernel
theorem dX5_sortOf_32 : decode cX5_sortOf 32 = .ok (.iconst 1, 1) := by decide +kernel
theorem dX5_sortOf_33 : decode cX5_sortOf 33 = .ok (.aload_n 0, 1) := by decide +kernel
theorem dX5_sortOf_34 : decode cX5_sortOf 34 = .ok (.getfield 74, 3) := by decide +kernel
theorem dX5_sortOf_37 : decode cX5_sortOf 37 = .ok (.iload 5, 2) := by decide +kernel
theorem dX5_sortOf_39 : decode cX5_sortOf 39 = .ok (.iconst 1, 1) := by decide +kernel
theorem dX5_sortOf_40 : decode cX5_sortOf 40 = .ok (.iadd, 1) := by decide +kernel
theorem dX5_sortOf_41 : decode cX5_sortOf 41 = .ok (.imul, 1) := by decide +kernel
theorem dX5_sortOf_42 : decode cX5_sortOf 42 = .ok (.iload_n 2, 1) := by decide +kernel
theorem dX5_sortOf_43 : decode cX5_sortOf 43 = .ok (.iadd, 1) := by decide +kernel
theorem dX5_sortOf_44 : decode cX5_sortOf 44 = .ok (.ishl, 1) := by decide +kernel
theorem dX5_sortOf_45 : decode cX5_sortOf 45 = .ok (.goto 4, 3) := by decide +kernel
theorem dX5_sortOf_48 : decode cX5_sortOf 48 = .ok (.iconst 0, 1) := by decide +kernel
theorem dX5_sortOf_49 : decode cX5_sortOf 49 = .ok (.istore 7, 2) := by decide +kernel
theorem dX5_sortOf_51 : decode cX5_sortOf 51 = .ok (.iload_n 3, 1) := by decide +kernel
theorem dX5_sortOf_52 : decode cX5_sortOf 52 = .ok (.iload 6, 2) := by decide +kernel
theorem dX5_sortOf_54 : decode cX5_sortOf 54 = .ok (.iand, 1) := by decide +kernel
theorem dX5_sortOf_55 : decode cX5_sortOf 55 = .ok (.ifCond .eq 5, 3) := by decide +kernel
theorem dX5_sortOf_58 : decode cX5_sortOf 58 = .ok (.iconst 0, 1) := by decide +kernel
theorem dX5_sortOf_59 : decode cX5_sortOf 59 = .ok (.ireturn, 1) := by decide +kernel
theorem dX5_sortOf_60 : decode cX5_sortOf 60 = .ok (.iload 4, 2) := by decide +kernel
theorem dX5_sortOf_62 : decode cX5_sortOf 62 = .ok (.iload 6, 2) := by decide +kernel
theorem dX5_sortOf_64 : decode cX5_sortOf 64 = .ok (.iand, 1) := by decide +kernel
theorem dX5_sortOf_65 : decode cX5_sortOf 65 = .ok (.ifCond .eq 5, 3) := by decide +kernel
theorem dX5_sortOf_68 : decode cX5_sortOf 68 = .ok (.iconst 1, 1) := by decide +kernel
theorem dX5_sortOf_69 : decode cX5_sortOf 69 = .ok (.ireturn, 1) := by decide +kernel
theorem dX5_sortOf_70 : decode cX5_sortOf 70 = .ok (.iload_n 3, 1) := by decide +kernel
theorem dX5_sortOf_71 : decode cX5_sortOf 71 = .ok (.iload 4, 2) := by decide +kernel
theorem dX5_sortOf_73 : decode cX5_sortOf 73 = .ok (.ior, 1) := by decide +kernel
theorem dX5_sortOf_74 : decode cX5_sortOf 74 = .ok (.iload 7, 2) := by decide +kernel
theorem dX5_sortOf_76 : decode cX5_sortOf 76 = .ok (.iand, 1) := by decide +kernel
theorem dX5_sortOf_77 : decode cX5_sortOf 77 = .ok (.ifCond .ne 5, 3) := by decide +kernel
theorem dX5_sortOf_80 : decode cX5_sortOf 80 = .ok (.iconst 2, 1) := by decide +kernel
theorem dX5_sortOf_81 : decode cX5_sortOf 81 = .ok (.ireturn, 1) := by decide +kernel
theorem dX5_sortOf_82 : decode cX5_sortOf 82 = .ok (.iload 4, 2) := by decide +kernel
theorem dX5_sortOf_84 : decode cX5_sortOf 84 = .ok (.iload 7, 2) := by decide +kernel
theorem dX5_sortOf_86 : decode cX5_sortOf 86 = .ok (.iand, 1) := by decide +kernel
theorem dX5_sortOf_87 : decode cX5_sortOf 87 = .ok (.ifCond .ne 7, 3) := by decide +kernel
theorem dX5_sortOf_90 : decode cX5_sortOf 90 = .ok (.iconst 3, 1) := by decide +kernel
theorem dX5_sortOf_91 : decode cX5_sortOf 91 = .ok (.goto 4, 3) := by decide +kernel
theorem dX5_sortOf_94 : decode cX5_sortOf 94 = .ok (.iconst 4, 1) := by decide +kernel
theorem dX5_sortOf_95 : decode cX5_sortOf 95 = .ok (.ireturn, 1) := by decide +kernel
theorem dX5_waiting_0 : decode cX5_waiting 0 = .ok (.aload_n 0, 1) := by decide +kernel
theorem dX5_waiting_1 : decode cX5_waiting 1 = .ok (.invokevirtual 150, 3) := by decide +kernel
theorem dX5_waiting_4 : decode cX5_waiting 4 = .ok (.ifCond .eq 7, 3) := by decide +kernel
theorem dX5_waiting_7 : decode cX5_waiting 7 = .ok (.sipush (-201), 3) := by decide +kernel
theorem dX5_waiting_10 : decode cX5_waiting 10 = .ok (.ireturn, 1) := by decide +kernel
theorem dX5_waiting_11 : decode cX5_waiting 11 = .ok (.aload_n 0, 1) := by decide +kernel
theorem dX5_waiting_12 : decode cX5_waiting 12 = .ok (.getfield 144, 3) := by decide +kernel
theorem dX5_waiting_15 : decode cX5_waiting 15 = .ok (.istore_n 1, 1) := by decide +kernel
theorem dX5_waiting_16 : decode cX5_waiting 16 = .ok (.aload_n 0, 1) := by decide +kernel
theorem dX5_waiting_17 : decode cX5_waiting 17 = .ok (.getfield 96, 3) := by decide +kernel
theorem dX5_waiting_20 : decode cX5_waiting 20 = .ok (.istore_n 2, 1) := by decide +kernel
theorem dX5_waiting_21 : decode cX5_waiting 21 = .ok (.aload_n 0, 1) := by decide +kernel
theorem dX5_waiting_22 : decode cX5_waiting 22 = .ok (.getfield 14, 3) := by decide +kernel
theorem dX5_waiting_25 : decode cX5_waiting 25 = .ok (.iload_n 1, 1) := by decide +kernel
theorem dX5_waiting_26 : decode cX5_waiting 26 = .ok (.baload, 1) := by decide +kernel
theorem dX5_waiting_27 : decode cX5_waiting 27 = .ok (.bipush 127, 2) := by decide +kernel
theorem dX5_waiting_29 : decode cX5_waiting 29 = .ok (.if_icmp .eq 126, 3) := by decide +kernel
theorem dX5_waiting_32 : decode cX5_waiting 32 = .ok (.aload_n 0, 1) := by decide +kernel
theorem dX5_waiting_33 : decode cX5_waiting 33 = .ok (.getfield 14, 3) := by decide +kernel
theorem dX5_waiting_36 : decode cX5_waiting 36 = .ok (.iload_n 1, 1) := by decide +kernel
theorem dX5_waiting_37 : decode cX5_waiting 37 = .ok (.baload, 1) := by decide +kernel
theorem dX5_waiting_38 : decode cX5_waiting 38 = .ok (.bipush 126, 2) := by decide +kernel
theorem dX5_waiting_40 : decode cX5_waiting 40 = .ok (.if_icmp .eq 115, 3) := by decide +kernel
theorem dX5_waiting_43 : decode cX5_waiting 43 = .ok (.aload_n 0, 1) := by decide +kernel
theorem dX5_waiting_44 : decode cX5_waiting 44 = .ok (.iload_n 1, 1) := by decide +kernel
theorem dX5_waiting_45 : decode cX5_waiting 45 = .ok (.invokevirtual 127, 3) := by decide +kernel
theorem dX5_waiting_48 : decode cX5_waiting 48 = .ok (.iload_n 2, 1) := by decide +kernel
theorem dX5_waiting_49 : decode cX5_waiting 49 = .ok (.iconst 2, 1) := by decide +kernel
theorem dX5_waiting_50 : decode cX5_waiting 50 = .ok (.irem, 1) := by decide +kernel
theorem dX5_waiting_51 : decode cX5_waiting 51 = .ok (.istore_n 3, 1) := by decide +kernel
theorem dX5_waiting_52 : decode cX5_waiting 52 = .ok (.aload_n 0, 1) := by decide +kernel
theorem dX5_waiting_53 : decode cX5_waiting 53 = .ok (.iload_n 3, 1) := by decide +kernel
theorem dX5_waiting_54 : decode cX5_waiting 54 = .ok (.invokevirtual 169, 3) := by decide +kernel
theorem dX5_waiting_57 : decode cX5_waiting 57 = .ok (.istore 4, 2) := by decide +kernel
theorem dX5_waiting_59 : decode cX5_waiting 59 = .ok (.aload_n 0, 1) := by decide +kernel
theorem dX5_waiting_60 : decode cX5_waiting 60 = .ok (.iconst 1, 1) := by decide +kernel
theorem dX5_waiting_61 : decode cX5_waiting 61 = .ok (.iload_n 3, 1) := by decide +kernel
theorem dX5_waiting_62 : decode cX5_waiting 62 = .ok (.isub, 1) := by decide +kernel
theorem dX5_waiting_63 : decode cX5_waiting 63 = .ok (.invokevirtual 169, 3) := by decide +kernel
theorem dX5_waiting_66 : decode cX5_waiting 66 = .ok (.istore 5, 2) := by decide +kernel
theorem dX5_waiting_68 : decode cX5_waiting 68 = .ok (.iconst (-1), 1) := by decide +kernel
theorem dX5_waiting_69 : decode cX5_waiting 69 = .ok (.istore 6, 2) := by decide +kernel
theorem dX5_waiting_71 : decode cX5_waiting 71 = .ok (.bipush 9, 2) := by decide +kernel
theorem dX5_waiting_73 : decode cX5_waiting 73 = .ok (.istore 7, 2) := by decide +kernel
theorem dX5_waiting_75 : decode cX5_waiting 75 = .ok (.iconst 0, 1) := by decide +kernel
theorem dX5_waiting_76 : decode cX5_waiting 76 = .ok (.istore 8, 2) := by decide +kernel
theorem dX5_waiting_78 : decode cX5_waiting 78 = .ok (.iload 8, 2) := by decide +kernel
theorem dX5_waiting_80 : decode cX5_waiting 80 = .ok (.aload_n 0, 1) := by decide +kernel
theorem dX5_waiting_81 : decode cX5_waiting 81 = .ok (.getfield 74, 3) := by decide +kernel
theorem dX5_waiting_84 : decode cX5_waiting 84 = .ok (.if_icmp .ge 56, 3) := by decide +kernel
theorem dX5_waiting_87 : decode cX5_waiting 87 = .ok (.aload_n 0, 1) := by decide +kernel
theorem dX5_waiting_88 : decode cX5_waiting 88 = .ok (.iload_n 1, 1) := by decide +kernel
theorem dX5_waiting_89 : decode cX5_waiting 89 = .ok (.iload 8, 2) := by decide +kernel
theorem dX5_waiting_91 : decode cX5_waiting 91 = .ok (.invokevirtual 114, 3) := by decide +kernel
theorem dX5_waiting_94 : decode cX5_waiting 94 = .ok (.aload_n 0, 1) := by decide +kernel
theorem dX5_waiting_95 : decode cX5_waiting 95 = .ok (.getfield 77, 3) := by decide +kernel
theorem dX5_waiting_98 : decode cX5_waiting 98 = .ok (.if_icmp .ge 36, 3) := by decide +kernel
theorem dX5_waiting_101 : decode cX5_waiting 101 = .ok (.aload_n 0, 1) := by decide +kernel
theorem dX5_waiting_102 : decode cX5_waiting 102 = .ok (.iload_n 1, 1) := by decide +kernel
theorem dX5_waiting_103 : decode cX5_waiting 103 = .ok (.iload 8, 2) := by decide +kernel
theorem dX5_waiting_105 : decode cX5_waiting 105 = .ok (.iload 4, 2) := by decide +kernel
theorem dX5_waiting_107 : decode cX5_waiting 107 = .ok (.iload 5, 2) := by decide +kernel
theorem dX5_waiting_109 : decode cX5_waiting 109 = .ok (.invokevirtual 173, 3) := by decide +kernel
theorem dX5_waiting_112 : decode cX5_waiting 112 = .ok (.iload 7, 2) := by decide +kernel
theorem dX5_waiting_114 : decode cX5_waiting 114 = .ok (.if_icmp .ge 20, 3) := by decide +kernel
theorem dX5_waiting_117 : decode cX5_waiting 117 = .ok (.iload 8, 2) := by decide +kernel
theorem dX5_waiting_119 : decode cX5_waiting 119 = .ok (.istore 6, 2) := by decide +kernel
theorem dX5_waiting_121 : decode cX5_waiting 121 = .ok (.aload_n 0, 1) := by decide +kernel
theorem dX5_waiting_122 : decode cX5_waiting 122 = .ok (.iload_n 1, 1) := by decide +kernel
theorem dX5_waiting_123 : decode cX5_waiting 123 = .ok (.iload 8, 2) := by decide +kernel
theorem dX5_waiting_125 : decode cX5_waiting 125 = .ok (.iload 4, 2) := by decide +kernel
theorem dX5_waiting_127 : decode cX5_waiting 127 = .ok (.iload 5, 2) := by decide +kernel
theorem dX5_waiting_129 : decode cX5_waiting 129 = .ok (.invokevirtual 173, 3) := by decide +kernel
theorem dX5_waiting_132 : decode cX5_waiting 132 = .ok (.istore 7, 2) := by decide +kernel
theorem dX5_waiting_134 : decode cX5_waiting 134 = .ok (.iinc 8 1, 3) := by decide +kernel
theorem dX5_waiting_137 : decode cX5_waiting 137 = .ok (.goto (-59), 3) := by decide +kernel
theorem dX5_waiting_140 : decode cX5_waiting 140 = .ok (.aload_n 0, 1) := by decide +kernel
theorem dX5_waiting_141 : decode cX5_waiting 141 = .ok (.iload_n 1, 1) := by decide +kernel
theorem dX5_waiting_142 : decode cX5_waiting 142 = .ok (.iload 6, 2) := by decide +kernel
theorem dX5_waiting_144 : decode cX5_waiting 144 = .ok (.iload_n 3, 1) := by decide +kernel
theorem dX5_waiting_145 : decode cX5_waiting 145 = .ok (.invokevirtual 134, 3) := by decide +kernel
theorem dX5_waiting_148 : decode cX5_waiting 148 = .ok (.istore_n 1, 1) := by decide +kernel
theorem dX5_waiting_149 : decode cX5_waiting 149 = .ok (.iinc 2 1, 3) := by decide +kernel
theorem dX5_waiting_152 : decode cX5_waiting 152 = .ok (.goto (-131), 3) := by decide +kernel
theorem dX5_waiting_155 : decode cX5_waiting 155 = .ok (.aload_n 0, 1) := by decide +kernel
theorem dX5_waiting_156 : decode cX5_waiting 156 = .ok (.getfield 14, 3) := by decide +kernel
theorem dX5_waiting_159 : decode cX5_waiting 159 = .ok (.iload_n 1, 1) := by decide +kernel
theorem dX5_waiting_160 : decode cX5_waiting 160 = .ok (.baload, 1) := by decide +kernel
theorem dX5_waiting_161 : decode cX5_waiting 161 = .ok (.bipush 126, 2) := by decide +kernel
theorem dX5_waiting_163 : decode cX5_waiting 163 = .ok (.if_icmp .ne 7, 3) := by decide +kernel
theorem dX5_waiting_166 : decode cX5_waiting 166 = .ok (.iconst 0, 1) := by decide +kernel
theorem dX5_waiting_167 : decode cX5_waiting 167 = .ok (.goto 15, 3) := by decide +kernel
theorem dX5_waiting_170 : decode cX5_waiting 170 = .ok (.iload_n 2, 1) := by decide +kernel
theorem dX5_waiting_171 : decode cX5_waiting 171 = .ok (.iconst 2, 1) := by decide +kernel
theorem dX5_waiting_172 : decode cX5_waiting 172 = .ok (.irem, 1) := by decide +kernel
theorem dX5_waiting_173 : decode cX5_waiting 173 = .ok (.iconst 1, 1) := by decide +kernel
theorem dX5_waiting_174 : decode cX5_waiting 174 = .ok (.if_icmp .ne 7, 3) := by decide +kernel
theorem dX5_waiting_177 : decode cX5_waiting 177 = .ok (.iconst 1, 1) := by decide +kernel
theorem dX5_waiting_178 : decode cX5_waiting 178 = .ok (.goto 4, 3) := by decide +kernel
theorem dX5_waiting_181 : decode cX5_waiting 181 = .ok (.iconst (-1), 1) := by decide +kernel
theorem dX5_waiting_182 : decode cX5_waiting 182 = .ok (.ireturn, 1) := by decide +kernel
theorem dX5_met_0 : decode cX5_met 0 = .ok (.aload_n 0, 1) := by decide +kernel
theorem dX5_met_1 : decode cX5_met 1 = .ok (.iload_n 1, 1) := by decide +kernel
theorem dX5_met_2 : decode cX5_met 2 = .ok (.putfield 176, 3) := by decide +kernel
theorem dX5_met_5 : decode cX5_met 5 = .ok (.bipush (-10), 2) := by decide +kernel
theorem dX5_met_7 : decode cX5_met 7 = .ok (.iload_n 1, 1) := by decide +kernel
theorem dX5_met_8 : decode cX5_met 8 = .ok (.isub, 1) := by decide +kernel
theorem dX5_met_9 : decode cX5_met 9 = .ok (.ireturn, 1) := by decide +kernel
theorem dX5_isSheet_0 : decode cX5_isSheet 0 = .ok (.iload_n 0, 1) := by decide +kernel
theorem dX5_isSheet_1 : decode cX5_isSheet 1 = .ok (.i2l, 1) := by decide +kernel
theorem dX5_isSheet_2 : decode cX5_isSheet 2 = .ok (.lconst 0, 1) := by decide +kernel
theorem dX5_isSheet_3 : decode cX5_isSheet 3 = .ok (.ldc2_w 179, 3) := by decide +kernel
theorem dX5_isSheet_6 : decode cX5_isSheet 6 = .ok (.invokestatic 57, 3) := by decide +kernel
theorem dX5_isSheet_9 : decode cX5_isSheet 9 = .ok (.ireturn, 1) := by decide +kernel
theorem dX5_sheet_0 : decode cX5_sheet 0 = .ok (.iload_n 1, 1) := by decide +kernel
theorem dX5_sheet_1 : decode cX5_sheet 1 = .ok (.invokestatic 181, 3) := by decide +kernel
theorem dX5_sheet_4 : decode cX5_sheet 4 = .ok (.ifCond .eq 21, 3) := by decide +kernel
theorem dX5_sheet_7 : decode cX5_sheet 7 = .ok (.iload_n 2, 1) := by decide +kernel
theorem dX5_sheet_8 : decode cX5_sheet 8 = .ok (.i2l, 1) := by decide +kernel
theorem dX5_sheet_9 : decode cX5_sheet 9 = .ok (.lconst 0, 1) := by decide +kernel
theorem dX5_sheet_10 : decode cX5_sheet 10 = .ok (.ldc2_w 63, 3) := by decide +kernel
theorem dX5_sheet_13 : decode cX5_sheet 13 = .ok (.invokestatic 57, 3) := by decide +kernel
theorem dX5_sheet_16 : decode cX5_sheet 16 = .ok (.ifCond .eq 9, 3) := by decide +kernel
theorem dX5_sheet_19 : decode cX5_sheet 19 = .ok (.iload_n 3, 1) := by decide +kernel
theorem dX5_sheet_20 : decode cX5_sheet 20 = .ok (.bipush 20, 2) := by decide +kernel
theorem dX5_sheet_22 : decode cX5_sheet 22 = .ok (.if_icmp .le 7, 3) := by decide +kernel
theorem dX5_sheet_25 : decode cX5_sheet 25 = .ok (.sipush (-200), 3) := by decide +kernel
theorem dX5_sheet_28 : decode cX5_sheet 28 = .ok (.ireturn, 1) := by decide +kernel
theorem dX5_sheet_29 : decode cX5_sheet 29 = .ok (.iload_n 3, 1) := by decide +kernel
theorem dX5_sheet_30 : decode cX5_sheet 30 = .ok (.ifCond .ge 9, 3) := by decide +kernel
theorem dX5_sheet_33 : decode cX5_sheet 33 = .ok (.aload_n 0, 1) := by decide +kernel
theorem dX5_sheet_34 : decode cX5_sheet 34 = .ok (.iconst 5, 1) := by decide +kernel
theorem dX5_sheet_35 : decode cX5_sheet 35 = .ok (.invokevirtual 184, 3) := by decide +kernel
theorem dX5_sheet_38 : decode cX5_sheet 38 = .ok (.ireturn, 1) := by decide +kernel
theorem dX5_sheet_39 : decode cX5_sheet 39 = .ok (.aload_n 0, 1) := by decide +kernel
theorem dX5_sheet_40 : decode cX5_sheet 40 = .ok (.getfield 39, 3) := by decide +kernel
theorem dX5_sheet_43 : decode cX5_sheet 43 = .ok (.iload_n 1, 1) := by decide +kernel
theorem dX5_sheet_44 : decode cX5_sheet 44 = .ok (.iload_n 2, 1) := by decide +kernel
theorem dX5_sheet_45 : decode cX5_sheet 45 = .ok (.iastore, 1) := by decide +kernel
theorem dX5_sheet_46 : decode cX5_sheet 46 = .ok (.aload_n 0, 1) := by decide +kernel
theorem dX5_sheet_47 : decode cX5_sheet 47 = .ok (.getfield 42, 3) := by decide +kernel
theorem dX5_sheet_50 : decode cX5_sheet 50 = .ok (.iload_n 1, 1) := by decide +kernel
theorem dX5_sheet_51 : decode cX5_sheet 51 = .ok (.iload_n 3, 1) := by decide +kernel
theorem dX5_sheet_52 : decode cX5_sheet 52 = .ok (.iastore, 1) := by decide +kernel
theorem dX5_sheet_53 : decode cX5_sheet 53 = .ok (.iconst 0, 1) := by decide +kernel
theorem dX5_sheet_54 : decode cX5_sheet 54 = .ok (.istore 4, 2) := by decide +kernel
theorem dX5_sheet_56 : decode cX5_sheet 56 = .ok (.iload 4, 2) := by decide +kernel
theorem dX5_sheet_58 : decode cX5_sheet 58 = .ok (.iload_n 3, 1) := by decide +kernel
theorem dX5_sheet_59 : decode cX5_sheet 59 = .ok (.if_icmp .ge 22, 3) := by decide +kernel
theorem dX5_sheet_62 : decode cX5_sheet 62 = .ok (.aload_n 0, 1) := by decide +kernel
theorem dX5_sheet_63 : decode cX5_sheet 63 = .ok (.getfield 45, 3) := by decide +kernel
theorem dX5_sheet_66 : decode cX5_sheet 66 = .ok (.bipush 20, 2) := by decide +kernel
theorem dX5_sheet_68 : decode cX5_sheet 68 = .ok (.iload_n 1, 1) := by decide +kernel
theorem dX5_sheet_69 : decode cX5_sheet 69 = .ok (.imul, 1) := by decide +kernel
theorem dX5_sheet_70 : decode cX5_sheet 70 = .ok (.iload 4, 2) := by decide +kernel
theorem dX5_sheet_72 : decode cX5_sheet 72 = .ok (.iadd, 1) := by decide +kernel
theorem dX5_sheet_73 : decode cX5_sheet 73 = .ok (.iconst 0, 1) := by decide +kernel
theorem dX5_sheet_74 : decode cX5_sheet 74 = .ok (.iastore, 1) := by decide +kernel
theorem dX5_sheet_75 : decode cX5_sheet 75 = .ok (.iinc 4 1, 3) := by decide +kernel
theorem dX5_sheet_78 : decode cX5_sheet 78 = .ok (.goto (-22), 3) := by decide +kernel
theorem dX5_sheet_81 : decode cX5_sheet 81 = .ok (.iload_n 3, 1) := by decide +kernel
theorem dX5_sheet_82 : decode cX5_sheet 82 = .ok (.ireturn, 1) := by decide +kernel
theorem dX5_lose_0 : decode cX5_lose 0 = .ok (.iload_n 1, 1) := by decide +kernel
theorem dX5_lose_1 : decode cX5_lose 1 = .ok (.invokestatic 181, 3) := by decide +kernel
theorem dX5_lose_4 : decode cX5_lose 4 = .ok (.ifCond .ne 7, 3) := by decide +kernel
theorem dX5_lose_7 : decode cX5_lose 7 = .ok (.sipush (-200), 3) := by decide +kernel
theorem dX5_lose_10 : decode cX5_lose 10 = .ok (.ireturn, 1) := by decide +kernel
theorem dX5_lose_11 : decode cX5_lose 11 = .ok (.aload_n 0, 1) := by decide +kernel
theorem dX5_lose_12 : decode cX5_lose 12 = .ok (.getfield 39, 3) := by decide +kernel
theorem dX5_lose_15 : decode cX5_lose 15 = .ok (.iload_n 1, 1) := by decide +kernel
theorem dX5_lose_16 : decode cX5_lose 16 = .ok (.iaload, 1) := by decide +kernel
theorem dX5_lose_17 : decode cX5_lose 17 = .ok (.ifCond .ge 9, 3) := by decide +kernel
theorem dX5_lose_20 : decode cX5_lose 20 = .ok (.aload_n 0, 1) := by decide +kernel
theorem dX5_lose_21 : decode cX5_lose 21 = .ok (.iconst 1, 1) := by decide +kernel
theorem dX5_lose_22 : decode cX5_lose 22 = .ok (.invokevirtual 184, 3) := by decide +kernel
theorem dX5_lose_25 : decode cX5_lose 25 = .ok (.ireturn, 1) := by decide +kernel
theorem dX5_lose_26 : decode cX5_lose 26 = .ok (.aload_n 0, 1) := by decide +kernel
theorem dX5_lose_27 : decode cX5_lose 27 = .ok (.getfield 39, 3) := by decide +kernel
theorem dX5_lose_30 : decode cX5_lose 30 = .ok (.iload_n 1, 1) := by decide +kernel
theorem dX5_lose_31 : decode cX5_lose 31 = .ok (.iconst (-1), 1) := by decide +kernel
theorem dX5_lose_32 : decode cX5_lose 32 = .ok (.iastore, 1) := by decide +kernel
theorem dX5_lose_33 : decode cX5_lose 33 = .ok (.aload_n 0, 1) := by decide +kernel
theorem dX5_lose_34 : decode cX5_lose 34 = .ok (.getfield 42, 3) := by decide +kernel
theorem dX5_lose_37 : decode cX5_lose 37 = .ok (.iload_n 1, 1) := by decide +kernel
theorem dX5_lose_38 : decode cX5_lose 38 = .ok (.iaload, 1) := by decide +kernel
theorem dX5_lose_39 : decode cX5_lose 39 = .ok (.ireturn, 1) := by decide +kernel
theorem dX5_lacks_0 : decode cX5_lacks 0 = .ok (.aload_n 0, 1) := by decide +kernel
theorem dX5_lacks_1 : decode cX5_lacks 1 = .ok (.getfield 39, 3) := by decide +kernel
theorem dX5_lacks_4 : decode cX5_lacks 4 = .ok (.iload_n 1, 1) := by decide +kernel
theorem dX5_lacks_5 : decode cX5_lacks 5 = .ok (.iaload, 1) := by decide +kernel
theorem dX5_lacks_6 : decode cX5_lacks 6 = .ok (.ifCond .ge 9, 3) := by decide +kernel
theorem dX5_lacks_9 : decode cX5_lacks 9 = .ok (.aload_n 0, 1) := by decide +kernel
theorem dX5_lacks_10 : decode cX5_lacks 10 = .ok (.iconst 1, 1) := by decide +kernel
theorem dX5_lacks_11 : decode cX5_lacks 11 = .ok (.invokevirtual 184, 3) := by decide +kernel
theorem dX5_lacks_14 : decode cX5_lacks 14 = .ok (.ireturn, 1) := by decide +kernel
theorem dX5_lacks_15 : decode cX5_lacks 15 = .ok (.aload_n 0, 1) := by decide +kernel
theorem dX5_lacks_16 : decode cX5_lacks 16 = .ok (.getfield 39, 3) := by decide +kernel
theorem dX5_lacks_19 : decode cX5_lacks 19 = .ok (.iload_n 1, 1) := by decide +kernel
theorem dX5_lacks_20 : decode cX5_lacks 20 = .ok (.iaload, 1) := by decide +kernel
theorem dX5_lacks_21 : decode cX5_lacks 21 = .ok (.iload_n 2, 1) := by decide +kernel
theorem dX5_lacks_22 : decode cX5_lacks 22 = .ok (.if_icmp .eq 9, 3) := by decide +kernel
theorem dX5_lacks_25 : decode cX5_lacks 25 = .ok (.aload_n 0, 1) := by decide +kernel
theorem dX5_lacks_26 : decode cX5_lacks 26 = .ok (.iconst 3, 1) := by decide +kernel
theorem dX5_lacks_27 : decode cX5_lacks 27 = .ok (.invokevirtual 184, 3) := by decide +kernel
theorem dX5_lacks_30 : decode cX5_lacks 30 = .ok (.ireturn, 1) := by decide +kernel
theorem dX5_lacks_31 : decode cX5_lacks 31 = .ok (.iload_n 3, 1) := by decide +kernel
theorem dX5_lacks_32 : decode cX5_lacks 32 = .ok (.i2l, 1) := by decide +kernel
theorem dX5_lacks_33 : decode cX5_lacks 33 = .ok (.lconst 0, 1) := by decide +kernel
theorem dX5_lacks_34 : decode cX5_lacks 34 = .ok (.aload_n 0, 1) := by decide +kernel
theorem dX5_lacks_35 : decode cX5_lacks 35 = .ok (.getfield 42, 3) := by decide +kernel
theorem dX5_lacks_38 : decode cX5_lacks 38 = .ok (.iload_n 1, 1) := by decide +kernel
theorem dX5_lacks_39 : decode cX5_lacks 39 = .ok (.iaload, 1) := by decide +kernel
theorem dX5_lacks_40 : decode cX5_lacks 40 = .ok (.iconst 1, 1) := by decide +kernel
theorem dX5_lacks_41 : decode cX5_lacks 41 = .ok (.isub, 1) := by decide +kernel
theorem dX5_lacks_42 : decode cX5_lacks 42 = .ok (.i2l, 1) := by decide +kernel
theorem dX5_lacks_43 : decode cX5_lacks 43 = .ok (.invokestatic 57, 3) := by decide +kernel
theorem dX5_lacks_46 : decode cX5_lacks 46 = .ok (.ifCond .eq 7, 3) := by decide +kernel
theorem dX5_lacks_49 : decode cX5_lacks 49 = .ok (.iconst 0, 1) := by decide +kernel
theorem dX5_lacks_50 : decode cX5_lacks 50 = .ok (.goto 8, 3) := by decide +kernel
theorem dX5_lacks_53 : decode cX5_lacks 53 = .ok (.aload_n 0, 1) := by decide +kernel
theorem dX5_lacks_54 : decode cX5_lacks 54 = .ok (.iconst 2, 1) := by decide +kernel
theorem dX5_lacks_55 : decode cX5_lacks 55 = .ok (.invokevirtual 184, 3) := by decide +kernel
theorem dX5_lacks_58 : decode cX5_lacks 58 = .ok (.ireturn, 1) := by decide +kernel
theorem dX5_cut_0 : decode cX5_cut 0 = .ok (.iload_n 0, 1) := by decide +kernel
theorem dX5_cut_1 : decode cX5_cut 1 = .ok (.ifCond .ne 8, 3) := by decide +kernel
theorem dX5_cut_4 : decode cX5_cut 4 = .ok (.iload_n 1, 1) := by decide +kernel
theorem dX5_cut_5 : decode cX5_cut 5 = .ok (.i2b, 1) := by decide +kernel
theorem dX5_cut_6 : decode cX5_cut 6 = .ok (.goto 14, 3) := by decide +kernel
theorem dX5_cut_9 : decode cX5_cut 9 = .ok (.iload_n 0, 1) := by decide +kernel
theorem dX5_cut_10 : decode cX5_cut 10 = .ok (.iconst 1, 1) := by decide +kernel
theorem dX5_cut_11 : decode cX5_cut 11 = .ok (.if_icmp .ne 8, 3) := by decide +kernel
theorem dX5_cut_14 : decode cX5_cut 14 = .ok (.iload_n 1, 1) := by decide +kernel
theorem dX5_cut_15 : decode cX5_cut 15 = .ok (.i2s, 1) := by decide +kernel
theorem dX5_cut_16 : decode cX5_cut 16 = .ok (.goto 4, 3) := by decide +kernel
theorem dX5_cut_19 : decode cX5_cut 19 = .ok (.iload_n 1, 1) := by decide +kernel
theorem dX5_cut_20 : decode cX5_cut 20 = .ok (.ireturn, 1) := by decide +kernel
theorem dX5_put_0 : decode cX5_put 0 = .ok (.iload_n 1, 1) := by decide +kernel
theorem dX5_put_1 : decode cX5_put 1 = .ok (.invokestatic 181, 3) := by decide +kernel
theorem dX5_put_4 : decode cX5_put 4 = .ok (.ifCond .eq 15, 3) := by decide +kernel
theorem dX5_put_7 : decode cX5_put 7 = .ok (.iload_n 2, 1) := by decide +kernel
theorem dX5_put_8 : decode cX5_put 8 = .ok (.i2l, 1) := by decide +kernel
theorem dX5_put_9 : decode cX5_put 9 = .ok (.lconst 0, 1) := by decide +kernel
theorem dX5_put_10 : decode cX5_put 10 = .ok (.ldc2_w 63, 3) := by decide +kernel
theorem dX5_put_13 : decode cX5_put 13 = .ok (.invokestatic 57, 3) := by decide +kernel
theorem dX5_put_16 : decode cX5_put 16 = .ok (.ifCond .ne 7, 3) := by decide +kernel
theorem dX5_put_19 : decode cX5_put 19 = .ok (.sipush (-200), 3) := by decide +kernel
theorem dX5_put_22 : decode cX5_put 22 = .ok (.ireturn, 1) := by decide +kernel
theorem dX5_put_23 : decode cX5_put 23 = .ok (.aload_n 0, 1) := by decide +kernel
theorem dX5_put_24 : decode cX5_put 24 = .ok (.iload_n 1, 1) := by decide +kernel
theorem dX5_put_25 : decode cX5_put 25 = .ok (.iload_n 2, 1) := by decide +kernel
theorem dX5_put_26 : decode cX5_put 26 = .ok (.iload_n 3, 1) := by decide +kernel
theorem dX5_put_27 : decode cX5_put 27 = .ok (.invokevirtual 187, 3) := by decide +kernel
theorem dX5_put_30 : decode cX5_put 30 = .ok (.istore 5, 2) := by decide +kernel
theorem dX5_put_32 : decode cX5_put 32 = .ok (.iload 5, 2) := by decide +kernel
theorem dX5_put_34 : decode cX5_put 34 = .ok (.ifCond .eq 6, 3) := by decide +kernel
theorem dX5_put_37 : decode cX5_put 37 = .ok (.iload 5, 2) := by decide +kernel
theorem dX5_put_39 : decode cX5_put 39 = .ok (.ireturn, 1) := by decide +kernel
theorem dX5_put_40 : decode cX5_put 40 = .ok (.aload_n 0, 1) := by decide +kernel
theorem dX5_put_41 : decode cX5_put 41 = .ok (.getfield 45, 3) := by decide +kernel
theorem dX5_put_44 : decode cX5_put 44 = .ok (.bipush 20, 2) := by decide +kernel
theorem dX5_put_46 : decode cX5_put 46 = .ok (.iload_n 1, 1) := by decide +kernel
theorem dX5_put_47 : decode cX5_put 47 = .ok (.imul, 1) := by decide +kernel
theorem dX5_put_48 : decode cX5_put 48 = .ok (.iload_n 3, 1) := by decide +kernel
theorem dX5_put_49 : decode cX5_put 49 = .ok (.iadd, 1) := by decide +kernel
theorem dX5_put_50 : decode cX5_put 50 = .ok (.iload_n 2, 1) := by decide +kernel
theorem dX5_put_51 : decode cX5_put 51 = .ok (.iload 4, 2) := by decide +kernel
theorem dX5_put_53 : decode cX5_put 53 = .ok (.invokestatic 190, 3) := by decide +kernel
theorem dX5_put_56 : decode cX5_put 56 = .ok (.iastore, 1) := by decide +kernel
theorem dX5_put_57 : decode cX5_put 57 = .ok (.iconst 1, 1) := by decide +kernel
theorem dX5_put_58 : decode cX5_put 58 = .ok (.ireturn, 1) := by decide +kernel
theorem dX5_get_0 : decode cX5_get 0 = .ok (.iload_n 1, 1) := by decide +kernel
theorem dX5_get_1 : decode cX5_get 1 = .ok (.invokestatic 181, 3) := by decide +kernel
theorem dX5_get_4 : decode cX5_get 4 = .ok (.ifCond .eq 25, 3) := by decide +kernel
theorem dX5_get_7 : decode cX5_get 7 = .ok (.iload_n 2, 1) := by decide +kernel
theorem dX5_get_8 : decode cX5_get 8 = .ok (.i2l, 1) := by decide +kernel
theorem dX5_get_9 : decode cX5_get 9 = .ok (.lconst 0, 1) := by decide +kernel
theorem dX5_get_10 : decode cX5_get 10 = .ok (.ldc2_w 63, 3) := by decide +kernel
theorem dX5_get_13 : decode cX5_get 13 = .ok (.invokestatic 57, 3) := by decide +kernel
theorem dX5_get_16 : decode cX5_get 16 = .ok (.ifCond .eq 13, 3) := by decide +kernel
theorem dX5_get_19 : decode cX5_get 19 = .ok (.aload_n 0, 1) := by decide +kernel
theorem dX5_get_20 : decode cX5_get 20 = .ok (.iload_n 1, 1) := by decide +kernel
theorem dX5_get_21 : decode cX5_get 21 = .ok (.iload_n 2, 1) := by decide +kernel
theorem dX5_get_22 : decode cX5_get 22 = .ok (.iload_n 3, 1) := by decide +kernel
theorem dX5_get_23 : decode cX5_get 23 = .ok (.invokevirtual 187, 3) := by decide +kernel
theorem dX5_get_26 : decode cX5_get 26 = .ok (.ifCond .eq 6, 3) := by decide +kernel
theorem dX5_get_29 : decode cX5_get 29 = .ok (.ldc 193, 2) := by decide +kernel
theorem dX5_get_31 : decode cX5_get 31 = .ok (.ireturn, 1) := by decide +kernel
theorem dX5_get_32 : decode cX5_get 32 = .ok (.aload_n 0, 1) := by decide +kernel
theorem dX5_get_33 : decode cX5_get 33 = .ok (.getfield 45, 3) := by decide +kernel
theorem dX5_get_36 : decode cX5_get 36 = .ok (.bipush 20, 2) := by decide +kernel
theorem dX5_get_38 : decode cX5_get 38 = .ok (.iload_n 1, 1) := by decide +kernel
theorem dX5_get_39 : decode cX5_get 39 = .ok (.imul, 1) := by decide +kernel
theorem dX5_get_40 : decode cX5_get 40 = .ok (.iload_n 3, 1) := by decide +kernel
theorem dX5_get_41 : decode cX5_get 41 = .ok (.iadd, 1) := by decide +kernel
theorem dX5_get_42 : decode cX5_get 42 = .ok (.iaload, 1) := by decide +kernel
theorem dX5_get_43 : decode cX5_get 43 = .ok (.ireturn, 1) := by decide +kernel
theorem dX5_copy_0 : decode cX5_copy 0 = .ok (.iload_n 1, 1) := by decide +kernel
theorem dX5_copy_1 : decode cX5_copy 1 = .ok (.invokestatic 181, 3) := by decide +kernel
theorem dX5_copy_4 : decode cX5_copy 4 = .ok (.ifCond .eq 10, 3) := by decide +kernel
theorem dX5_copy_7 : decode cX5_copy 7 = .ok (.iload_n 3, 1) := by decide +kernel
theorem dX5_copy_8 : decode cX5_copy 8 = .ok (.invokestatic 181, 3) := by decide +kernel
theorem dX5_copy_11 : decode cX5_copy 11 = .ok (.ifCond .ne 7, 3) := by decide +kernel
theorem dX5_copy_14 : decode cX5_copy 14 = .ok (.sipush (-200), 3) := by decide +kernel
theorem dX5_copy_17 : decode cX5_copy 17 = .ok (.ireturn, 1) := by decide +kernel
theorem dX5_copy_18 : decode cX5_copy 18 = .ok (.aload_n 0, 1) := by decide +kernel
theorem dX5_copy_19 : decode cX5_copy 19 = .ok (.getfield 39, 3) := by decide +kernel
theorem dX5_copy_22 : decode cX5_copy 22 = .ok (.iload_n 1, 1) := by decide +kernel
theorem dX5_copy_23 : decode cX5_copy 23 = .ok (.iaload, 1) := by decide +kernel
theorem dX5_copy_24 : decode cX5_copy 24 = .ok (.ifCond .lt 12, 3) := by decide +kernel
theorem dX5_copy_27 : decode cX5_copy 27 = .ok (.aload_n 0, 1) := by decide +kernel
theorem dX5_copy_28 : decode cX5_copy 28 = .ok (.getfield 39, 3) := by decide +kernel
theorem dX5_copy_31 : decode cX5_copy 31 = .ok (.iload_n 3, 1) := by decide +kernel
theorem dX5_copy_32 : decode cX5_copy 32 = .ok (.iaload, 1) := by decide +kernel
theorem dX5_copy_33 : decode cX5_copy 33 = .ok (.ifCond .ge 9, 3) := by decide +kernel
theorem dX5_copy_36 : decode cX5_copy 36 = .ok (.aload_n 0, 1) := by decide +kernel
theorem dX5_copy_37 : decode cX5_copy 37 = .ok (.iconst 1, 1) := by decide +kernel
theorem dX5_copy_38 : decode cX5_copy 38 = .ok (.invokevirtual 184, 3) := by decide +kernel
theorem dX5_copy_41 : decode cX5_copy 41 = .ok (.ireturn, 1) := by decide +kernel
theorem dX5_copy_42 : decode cX5_copy 42 = .ok (.aload_n 0, 1) := by decide +kernel
theorem dX5_copy_43 : decode cX5_copy 43 = .ok (.getfield 39, 3) := by decide +kernel
theorem dX5_copy_46 : decode cX5_copy 46 = .ok (.iload_n 1, 1) := by decide +kernel
theorem dX5_copy_47 : decode cX5_copy 47 = .ok (.iaload, 1) := by decide +kernel
theorem dX5_copy_48 : decode cX5_copy 48 = .ok (.aload_n 0, 1) := by decide +kernel
theorem dX5_copy_49 : decode cX5_copy 49 = .ok (.getfield 39, 3) := by decide +kernel
theorem dX5_copy_52 : decode cX5_copy 52 = .ok (.iload_n 3, 1) := by decide +kernel
theorem dX5_copy_53 : decode cX5_copy 53 = .ok (.iaload, 1) := by decide +kernel
theorem dX5_copy_54 : decode cX5_copy 54 = .ok (.if_icmp .eq 9, 3) := by decide +kernel
theorem dX5_copy_57 : decode cX5_copy 57 = .ok (.aload_n 0, 1) := by decide +kernel
theorem dX5_copy_58 : decode cX5_copy 58 = .ok (.iconst 4, 1) := by decide +kernel
theorem dX5_copy_59 : decode cX5_copy 59 = .ok (.invokevirtual 184, 3) := by decide +kernel
theorem dX5_copy_62 : decode cX5_copy 62 = .ok (.ireturn, 1) := by decide +kernel
theorem dX5_copy_63 : decode cX5_copy 63 = .ok (.iload_n 2, 1) := by decide +kernel
theorem dX5_copy_64 : decode cX5_copy 64 = .ok (.ifCond .lt 48, 3) := by decide +kernel
theorem dX5_copy_67 : decode cX5_copy 67 = .ok (.iload 4, 2) := by decide +kernel
theorem dX5_copy_69 : decode cX5_copy 69 = .ok (.ifCond .lt 43, 3) := by decide +kernel
theorem dX5_copy_72 : decode cX5_copy 72 = .ok (.iload 5, 2) := by decide +kernel
theorem dX5_copy_74 : decode cX5_copy 74 = .ok (.ifCond .lt 38, 3) := by decide +kernel
theorem dX5_copy_77 : decode cX5_copy 77 = .ok (.iload_n 2, 1) := by decide +kernel
theorem dX5_copy_78 : decode cX5_copy 78 = .ok (.i2l, 1) := by decide +kernel
theorem dX5_copy_79 : decode cX5_copy 79 = .ok (.iload 5, 2) := by decide +kernel
theorem dX5_copy_81 : decode cX5_copy 81 = .ok (.i2l, 1) := by decide +kernel
theorem dX5_copy_82 : decode cX5_copy 82 = .ok (.ladd, 1) := by decide +kernel
theorem dX5_copy_83 : decode cX5_copy 83 = .ok (.aload_n 0, 1) := by decide +kernel
theorem dX5_copy_84 : decode cX5_copy 84 = .ok (.getfield 42, 3) := by decide +kernel
theorem dX5_copy_87 : decode cX5_copy 87 = .ok (.iload_n 1, 1) := by decide +kernel
theorem dX5_copy_88 : decode cX5_copy 88 = .ok (.iaload, 1) := by decide +kernel
theorem dX5_copy_89 : decode cX5_copy 89 = .ok (.i2l, 1) := by decide +kernel
theorem dX5_copy_90 : decode cX5_copy 90 = .ok (.lcmp, 1) := by decide +kernel
theorem dX5_copy_91 : decode cX5_copy 91 = .ok (.ifCond .gt 21, 3) := by decide +kernel
theorem dX5_copy_94 : decode cX5_copy 94 = .ok (.iload 4, 2) := by decide +kernel
theorem dX5_copy_96 : decode cX5_copy 96 = .ok (.i2l, 1) := by decide +kernel
theorem dX5_copy_97 : decode cX5_copy 97 = .ok (.iload 5, 2) := by decide +kernel
theorem dX5_copy_99 : decode cX5_copy 99 = .ok (.i2l, 1) := by decide +kernel
theorem dX5_copy_100 : decode cX5_copy 100 = .ok (.ladd, 1) := by decide +kernel
theorem dX5_copy_101 : decode cX5_copy 101 = .ok (.aload_n 0, 1) := by decide +kernel
theorem dX5_copy_102 : decode cX5_copy 102 = .ok (.getfield 42, 3) := by decide +kernel
theorem dX5_copy_105 : decode cX5_copy 105 = .ok (.iload_n 3, 1) := by decide +kernel
theorem dX5_copy_106 : decode cX5_copy 106 = .ok (.iaload, 1) := by decide +kernel
theorem dX5_copy_107 : decode cX5_copy 107 = .ok (.i2l, 1) := by decide +kernel
theorem dX5_copy_108 : decode cX5_copy 108 = .ok (.lcmp, 1) := by decide +kernel
theorem dX5_copy_109 : decode cX5_copy 109 = .ok (.ifCond .le 9, 3) := by decide +kernel
theorem dX5_copy_112 : decode cX5_copy 112 = .ok (.aload_n 0, 1) := by decide +kernel
theorem dX5_copy_113 : decode cX5_copy 113 = .ok (.iconst 2, 1) := by decide +kernel
theorem dX5_copy_114 : decode cX5_copy 114 = .ok (.invokevirtual 184, 3) := by decide +kernel
theorem dX5_copy_117 : decode cX5_copy 117 = .ok (.ireturn, 1) := by decide +kernel
theorem dX5_copy_118 : decode cX5_copy 118 = .ok (.iconst 0, 1) := by decide +kernel
theorem dX5_copy_119 : decode cX5_copy 119 = .ok (.istore 6, 2) := by decide +kernel
theorem dX5_copy_121 : decode cX5_copy 121 = .ok (.iload 6, 2) := by decide +kernel
theorem dX5_copy_123 : decode cX5_copy 123 = .ok (.iload 5, 2) := by decide +kernel
theorem dX5_copy_125 : decode cX5_copy 125 = .ok (.if_icmp .ge 30, 3) := by decide +kernel
theorem dX5_copy_128 : decode cX5_copy 128 = .ok (.aload_n 0, 1) := by decide +kernel
theorem dX5_copy_129 : decode cX5_copy 129 = .ok (.getfield 48, 3) := by decide +kernel
theorem dX5_copy_132 : decode cX5_copy 132 = .ok (.iload 6, 2) := by decide +kernel
theorem dX5_copy_134 : decode cX5_copy 134 = .ok (.aload_n 0, 1) := by decide +kernel
theorem dX5_copy_135 : decode cX5_copy 135 = .ok (.getfield 45, 3) := by decide +kernel
theorem dX5_copy_138 : decode cX5_copy 138 = .ok (.bipush 20, 2) := by decide +kernel
theorem dX5_copy_140 : decode cX5_copy 140 = .ok (.iload_n 1, 1) := by decide +kernel
theorem dX5_copy_141 : decode cX5_copy 141 = .ok (.imul, 1) := by decide +kernel
theorem dX5_copy_142 : decode cX5_copy 142 = .ok (.iload_n 2, 1) := by decide +kernel
theorem dX5_copy_143 : decode cX5_copy 143 = .ok (.iadd, 1) := by decide +kernel
theorem dX5_copy_144 : decode cX5_copy 144 = .ok (.iload 6, 2) := by decide +kernel
theorem dX5_copy_146 : decode cX5_copy 146 = .ok (.iadd, 1) := by decide +kernel
theorem dX5_copy_147 : decode cX5_copy 147 = .ok (.iaload, 1) := by decide +kernel
theorem dX5_copy_148 : decode cX5_copy 148 = .ok (.iastore, 1) := by decide +kernel
theorem dX5_copy_149 : decode cX5_copy 149 = .ok (.iinc 6 1, 3) := by decide +kernel
theorem dX5_copy_152 : decode cX5_copy 152 = .ok (.goto (-31), 3) := by decide +kernel
theorem dX5_copy_155 : decode cX5_copy 155 = .ok (.iconst 0, 1) := by decide +kernel
theorem dX5_copy_156 : decode cX5_copy 156 = .ok (.istore 6, 2) := by decide +kernel
theorem dX5_copy_158 : decode cX5_copy 158 = .ok (.iload 6, 2) := by decide +kernel
theorem dX5_copy_160 : decode cX5_copy 160 = .ok (.iload 5, 2) := by decide +kernel
theorem dX5_copy_162 : decode cX5_copy 162 = .ok (.if_icmp .ge 31, 3) := by decide +kernel
theorem dX5_copy_165 : decode cX5_copy 165 = .ok (.aload_n 0, 1) := by decide +kernel
theorem dX5_copy_166 : decode cX5_copy 166 = .ok (.getfield 45, 3) := by decide +kernel
theorem dX5_copy_169 : decode cX5_copy 169 = .ok (.bipush 20, 2) := by decide +kernel
theorem dX5_copy_171 : decode cX5_copy 171 = .ok (.iload_n 3, 1) := by decide +kernel
theorem dX5_copy_172 : decode cX5_copy 172 = .ok (.imul, 1) := by decide +kernel
theorem dX5_copy_173 : decode cX5_copy 173 = .ok (.iload 4, 2) := by decide +kernel
theorem dX5_copy_175 : decode cX5_copy 175 = .ok (.iadd, 1) := by decide +kernel
theorem dX5_copy_176 : decode cX5_copy 176 = .ok (.iload 6, 2) := by decide +kernel
theorem dX5_copy_178 : decode cX5_copy 178 = .ok (.iadd, 1) := by decide +kernel
theorem dX5_copy_179 : decode cX5_copy 179 = .ok (.aload_n 0, 1) := by decide +kernel
theorem dX5_copy_180 : decode cX5_copy 180 = .ok (.getfield 48, 3) := by decide +kernel
theorem dX5_copy_183 : decode cX5_copy 183 = .ok (.iload 6, 2) := by decide +kernel
theorem dX5_copy_185 : decode cX5_copy 185 = .ok (.iaload, 1) := by decide +kernel
theorem dX5_copy_186 : decode cX5_copy 186 = .ok (.iastore, 1) := by decide +kernel
theorem dX5_copy_187 : decode cX5_copy 187 = .ok (.iinc 6 1, 3) := by decide +kernel
theorem dX5_copy_190 : decode cX5_copy 190 = .ok (.goto (-32), 3) := by decide +kernel
theorem dX5_copy_193 : decode cX5_copy 193 = .ok (.iconst 1, 1) := by decide +kernel
theorem dX5_copy_194 : decode cX5_copy 194 = .ok (.ireturn, 1) := by decide +kernel
theorem dX5_take_0 : decode cX5_take 0 = .ok (.iload_n 1, 1) := by decide +kernel
theorem dX5_take_1 : decode cX5_take 1 = .ok (.invokestatic 181, 3) := by decide +kernel
theorem dX5_take_4 : decode cX5_take 4 = .ok (.ifCond .eq 15, 3) := by decide +kernel
theorem dX5_take_7 : decode cX5_take 7 = .ok (.iload_n 2, 1) := by decide +kernel
theorem dX5_take_8 : decode cX5_take 8 = .ok (.i2l, 1) := by decide +kernel
theorem dX5_take_9 : decode cX5_take 9 = .ok (.lconst 0, 1) := by decide +kernel
theorem dX5_take_10 : decode cX5_take 10 = .ok (.ldc2_w 194, 3) := by decide +kernel
theorem dX5_take_13 : decode cX5_take 13 = .ok (.invokestatic 57, 3) := by decide +kernel
theorem dX5_take_16 : decode cX5_take 16 = .ok (.ifCond .ne 7, 3) := by decide +kernel
theorem dX5_take_19 : decode cX5_take 19 = .ok (.sipush (-200), 3) := by decide +kernel
theorem dX5_take_22 : decode cX5_take 22 = .ok (.ireturn, 1) := by decide +kernel
theorem dX5_take_23 : decode cX5_take 23 = .ok (.aload_n 0, 1) := by decide +kernel
theorem dX5_take_24 : decode cX5_take 24 = .ok (.getfield 39, 3) := by decide +kernel
theorem dX5_take_27 : decode cX5_take 27 = .ok (.iload_n 1, 1) := by decide +kernel
theorem dX5_take_28 : decode cX5_take 28 = .ok (.iaload, 1) := by decide +kernel
theorem dX5_take_29 : decode cX5_take 29 = .ok (.ifCond .ge 9, 3) := by decide +kernel
theorem dX5_take_32 : decode cX5_take 32 = .ok (.aload_n 0, 1) := by decide +kernel
theorem dX5_take_33 : decode cX5_take 33 = .ok (.iconst 1, 1) := by decide +kernel
theorem dX5_take_34 : decode cX5_take 34 = .ok (.invokevirtual 184, 3) := by decide +kernel
theorem dX5_take_37 : decode cX5_take 37 = .ok (.ireturn, 1) := by decide +kernel
theorem dX5_take_38 : decode cX5_take 38 = .ok (.iload_n 2, 1) := by decide +kernel
theorem dX5_take_39 : decode cX5_take 39 = .ok (.aload_n 0, 1) := by decide +kernel
theorem dX5_take_40 : decode cX5_take 40 = .ok (.getfield 42, 3) := by decide +kernel
theorem dX5_take_43 : decode cX5_take 43 = .ok (.iload_n 1, 1) := by decide +kernel
theorem dX5_take_44 : decode cX5_take 44 = .ok (.iaload, 1) := by decide +kernel
theorem dX5_take_45 : decode cX5_take 45 = .ok (.if_icmp .le 9, 3) := by decide +kernel
theorem dX5_take_48 : decode cX5_take 48 = .ok (.aload_n 0, 1) := by decide +kernel
theorem dX5_take_49 : decode cX5_take 49 = .ok (.iconst 2, 1) := by decide +kernel
theorem dX5_take_50 : decode cX5_take 50 = .ok (.invokevirtual 184, 3) := by decide +kernel
theorem dX5_take_53 : decode cX5_take 53 = .ok (.ireturn, 1) := by decide +kernel
theorem dX5_take_54 : decode cX5_take 54 = .ok (.aload_n 0, 1) := by decide +kernel
theorem dX5_take_55 : decode cX5_take 55 = .ok (.invokevirtual 124, 3) := by decide +kernel
theorem dX5_take_58 : decode cX5_take 58 = .ok (.istore_n 3, 1) := by decide +kernel
theorem dX5_take_59 : decode cX5_take 59 = .ok (.iconst 0, 1) := by decide +kernel
theorem dX5_take_60 : decode cX5_take 60 = .ok (.istore 4, 2) := by decide +kernel
theorem dX5_take_62 : decode cX5_take 62 = .ok (.iload 4, 2) := by decide +kernel
theorem dX5_take_64 : decode cX5_take 64 = .ok (.iload_n 2, 1) := by decide +kernel
theorem dX5_take_65 : decode cX5_take 65 = .ok (.if_icmp .ge 106, 3) := by decide +kernel
theorem dX5_take_68 : decode cX5_take 68 = .ok (.aload_n 0, 1) := by decide +kernel
theorem dX5_take_69 : decode cX5_take 69 = .ok (.getfield 45, 3) := by decide +kernel
theorem dX5_take_72 : decode cX5_take 72 = .ok (.bipush 20, 2) := by decide +kernel
theorem dX5_take_74 : decode cX5_take 74 = .ok (.iload_n 1, 1) := by decide +kernel
theorem dX5_take_75 : decode cX5_take 75 = .ok (.imul, 1) := by decide +kernel
theorem dX5_take_76 : decode cX5_take 76 = .ok (.iload 4, 2) := by decide +kernel
theorem dX5_take_78 : decode cX5_take 78 = .ok (.iadd, 1) := by decide +kernel
theorem dX5_take_79 : decode cX5_take 79 = .ok (.iaload, 1) := by decide +kernel
theorem dX5_take_80 : decode cX5_take 80 = .ok (.istore 5, 2) := by decide +kernel
theorem dX5_take_82 : decode cX5_take 82 = .ok (.aload_n 0, 1) := by decide +kernel
theorem dX5_take_83 : decode cX5_take 83 = .ok (.getfield 14, 3) := by decide +kernel
theorem dX5_take_86 : decode cX5_take 86 = .ok (.iload_n 3, 1) := by decide +kernel
theorem dX5_take_87 : decode cX5_take 87 = .ok (.baload, 1) := by decide +kernel
theorem dX5_take_88 : decode cX5_take 88 = .ok (.bipush 127, 2) := by decide +kernel
theorem dX5_take_90 : decode cX5_take 90 = .ok (.if_icmp .eq 49, 3) := by decide +kernel
theorem dX5_take_93 : decode cX5_take 93 = .ok (.aload_n 0, 1) := by decide +kernel
theorem dX5_take_94 : decode cX5_take 94 = .ok (.getfield 14, 3) := by decide +kernel
theorem dX5_take_97 : decode cX5_take 97 = .ok (.iload_n 3, 1) := by decide +kernel
theorem dX5_take_98 : decode cX5_take 98 = .ok (.baload, 1) := by decide +kernel
theorem dX5_take_99 : decode cX5_take 99 = .ok (.bipush 126, 2) := by decide +kernel
theorem dX5_take_101 : decode cX5_take 101 = .ok (.if_icmp .eq 38, 3) := by decide +kernel
theorem dX5_take_104 : decode cX5_take 104 = .ok (.iload 5, 2) := by decide +kernel
theorem dX5_take_106 : decode cX5_take 106 = .ok (.i2l, 1) := by decide +kernel
theorem dX5_take_107 : decode cX5_take 107 = .ok (.lconst 0, 1) := by decide +kernel
theorem dX5_take_108 : decode cX5_take 108 = .ok (.aload_n 0, 1) := by decide +kernel
theorem dX5_take_109 : decode cX5_take 109 = .ok (.getfield 74, 3) := by decide +kernel
theorem dX5_take_112 : decode cX5_take 112 = .ok (.iconst 1, 1) := by decide +kernel
theorem dX5_take_113 : decode cX5_take 113 = .ok (.isub, 1) := by decide +kernel
theorem dX5_take_114 : decode cX5_take 114 = .ok (.i2l, 1) := by decide +kernel
theorem dX5_take_115 : decode cX5_take 115 = .ok (.invokestatic 57, 3) := by decide +kernel
theorem dX5_take_118 : decode cX5_take 118 = .ok (.ifCond .eq 21, 3) := by decide +kernel
theorem dX5_take_121 : decode cX5_take 121 = .ok (.aload_n 0, 1) := by decide +kernel
theorem dX5_take_122 : decode cX5_take 122 = .ok (.iload_n 3, 1) := by decide +kernel
theorem dX5_take_123 : decode cX5_take 123 = .ok (.iload 5, 2) := by decide +kernel
theorem dX5_take_125 : decode cX5_take 125 = .ok (.invokevirtual 114, 3) := by decide +kernel
theorem dX5_take_128 : decode cX5_take 128 = .ok (.aload_n 0, 1) := by decide +kernel
theorem dX5_take_129 : decode cX5_take 129 = .ok (.getfield 77, 3) := by decide +kernel
theorem dX5_take_132 : decode cX5_take 132 = .ok (.if_icmp .ge 7, 3) := by decide +kernel
theorem dX5_take_135 : decode cX5_take 135 = .ok (.iconst 1, 1) := by decide +kernel
theorem dX5_take_136 : decode cX5_take 136 = .ok (.goto 4, 3) := by decide +kernel
theorem dX5_take_139 : decode cX5_take 139 = .ok (.iconst 0, 1) := by decide +kernel
theorem dX5_take_140 : decode cX5_take 140 = .ok (.istore 6, 2) := by decide +kernel
theorem dX5_take_142 : decode cX5_take 142 = .ok (.iload 6, 2) := by decide +kernel
theorem dX5_take_144 : decode cX5_take 144 = .ok (.ifCond .ne 9, 3) := by decide +kernel
theorem dX5_take_147 : decode cX5_take 147 = .ok (.bipush (-100), 2) := by decide +kernel
theorem dX5_take_149 : decode cX5_take 149 = .ok (.iload 4, 2) := by decide +kernel
theorem dX5_take_151 : decode cX5_take 151 = .ok (.isub, 1) := by decide +kernel
theorem dX5_take_152 : decode cX5_take 152 = .ok (.ireturn, 1) := by decide +kernel
theorem dX5_take_153 : decode cX5_take 153 = .ok (.aload_n 0, 1) := by decide +kernel
theorem dX5_take_154 : decode cX5_take 154 = .ok (.iload_n 3, 1) := by decide +kernel
theorem dX5_take_155 : decode cX5_take 155 = .ok (.iload 5, 2) := by decide +kernel
theorem dX5_take_157 : decode cX5_take 157 = .ok (.iload 4, 2) := by decide +kernel
theorem dX5_take_159 : decode cX5_take 159 = .ok (.iconst 2, 1) := by decide +kernel
theorem dX5_take_160 : decode cX5_take 160 = .ok (.irem, 1) := by decide +kernel
theorem dX5_take_161 : decode cX5_take 161 = .ok (.invokevirtual 134, 3) := by decide +kernel
theorem dX5_take_164 : decode cX5_take 164 = .ok (.istore_n 3, 1) := by decide +kernel
theorem dX5_take_165 : decode cX5_take 165 = .ok (.iinc 4 1, 3) := by decide +kernel
theorem dX5_take_168 : decode cX5_take 168 = .ok (.goto (-106), 3) := by decide +kernel
theorem dX5_take_171 : decode cX5_take 171 = .ok (.iconst 0, 1) := by decide +kernel
theorem dX5_take_172 : decode cX5_take 172 = .ok (.istore 4, 2) := by decide +kernel
theorem dX5_take_174 : decode cX5_take 174 = .ok (.iload 4, 2) := by decide +kernel
theorem dX5_take_176 : decode cX5_take 176 = .ok (.iload_n 2, 1) := by decide +kernel
theorem dX5_take_177 : decode cX5_take 177 = .ok (.if_icmp .ge 28, 3) := by decide +kernel
theorem dX5_take_180 : decode cX5_take 180 = .ok (.aload_n 0, 1) := by decide +kernel
theorem dX5_take_181 : decode cX5_take 181 = .ok (.getfield 36, 3) := by decide +kernel
theorem dX5_take_184 : decode cX5_take 184 = .ok (.iload 4, 2) := by decide +kernel
theorem dX5_take_186 : decode cX5_take 186 = .ok (.aload_n 0, 1) := by decide +kernel
theorem dX5_take_187 : decode cX5_take 187 = .ok (.getfield 45, 3) := by decide +kernel
theorem dX5_take_190 : decode cX5_take 190 = .ok (.bipush 20, 2) := by decide +kernel
theorem dX5_take_192 : decode cX5_take 192 = .ok (.iload_n 1, 1) := by decide +kernel
theorem dX5_take_193 : decode cX5_take 193 = .ok (.imul, 1) := by decide +kernel
theorem dX5_take_194 : decode cX5_take 194 = .ok (.iload 4, 2) := by decide +kernel
theorem dX5_take_196 : decode cX5_take 196 = .ok (.iadd, 1) := by decide +kernel
theorem dX5_take_197 : decode cX5_take 197 = .ok (.iaload, 1) := by decide +kernel
theorem dX5_take_198 : decode cX5_take 198 = .ok (.iastore, 1) := by decide +kernel
theorem dX5_take_199 : decode cX5_take 199 = .ok (.iinc 4 1, 3) := by decide +kernel
theorem dX5_take_202 : decode cX5_take 202 = .ok (.goto (-28), 3) := by decide +kernel
theorem dX5_take_205 : decode cX5_take 205 = .ok (.aload_n 0, 1) := by decide +kernel
theorem dX5_take_206 : decode cX5_take 206 = .ok (.iload_n 2, 1) := by decide +kernel
theorem dX5_take_207 : decode cX5_take 207 = .ok (.putfield 96, 3) := by decide +kernel
theorem dX5_take_210 : decode cX5_take 210 = .ok (.aload_n 0, 1) := by decide +kernel
theorem dX5_take_211 : decode cX5_take 211 = .ok (.invokevirtual 99, 3) := by decide +kernel
theorem dX5_take_214 : decode cX5_take 214 = .ok (.aload_n 0, 1) := by decide +kernel
theorem dX5_take_215 : decode cX5_take 215 = .ok (.iconst 2, 1) := by decide +kernel
theorem dX5_take_216 : decode cX5_take 216 = .ok (.invokevirtual 196, 3) := by decide +kernel
theorem dX5_take_219 : decode cX5_take 219 = .ok (.ireturn, 1) := by decide +kernel
theorem dX5_write_0 : decode cX5_write 0 = .ok (.iload_n 1, 1) := by decide +kernel
theorem dX5_write_1 : decode cX5_write 1 = .ok (.invokestatic 181, 3) := by decide +kernel
theorem dX5_write_4 : decode cX5_write 4 = .ok (.ifCond .ne 7, 3) := by decide +kernel
theorem dX5_write_7 : decode cX5_write 7 = .ok (.sipush (-200), 3) := by decide +kernel
theorem dX5_write_10 : decode cX5_write 10 = .ok (.ireturn, 1) := by decide +kernel
theorem dX5_write_11 : decode cX5_write 11 = .ok (.aload_n 0, 1) := by decide +kernel
theorem dX5_write_12 : decode cX5_write 12 = .ok (.getfield 39, 3) := by decide +kernel
theorem dX5_write_15 : decode cX5_write 15 = .ok (.iload_n 1, 1) := by decide +kernel
theorem dX5_write_16 : decode cX5_write 16 = .ok (.iaload, 1) := by decide +kernel
theorem dX5_write_17 : decode cX5_write 17 = .ok (.ifCond .ge 9, 3) := by decide +kernel
theorem dX5_write_20 : decode cX5_write 20 = .ok (.aload_n 0, 1) := by decide +kernel
theorem dX5_write_21 : decode cX5_write 21 = .ok (.iconst 1, 1) := by decide +kernel
theorem dX5_write_22 : decode cX5_write 22 = .ok (.invokevirtual 184, 3) := by decide +kernel
theorem dX5_write_25 : decode cX5_write 25 = .ok (.ireturn, 1) := by decide +kernel
theorem dX5_write_26 : decode cX5_write 26 = .ok (.aload_n 0, 1) := by decide +kernel
theorem dX5_write_27 : decode cX5_write 27 = .ok (.getfield 42, 3) := by decide +kernel
theorem dX5_write_30 : decode cX5_write 30 = .ok (.iload_n 1, 1) := by decide +kernel
theorem dX5_write_31 : decode cX5_write 31 = .ok (.iaload, 1) := by decide +kernel
theorem dX5_write_32 : decode cX5_write 32 = .ok (.aload_n 0, 1) := by decide +kernel
theorem dX5_write_33 : decode cX5_write 33 = .ok (.getfield 96, 3) := by decide +kernel
theorem dX5_write_36 : decode cX5_write 36 = .ok (.if_icmp .ge 9, 3) := by decide +kernel
theorem dX5_write_39 : decode cX5_write 39 = .ok (.aload_n 0, 1) := by decide +kernel
theorem dX5_write_40 : decode cX5_write 40 = .ok (.iconst 2, 1) := by decide +kernel
theorem dX5_write_41 : decode cX5_write 41 = .ok (.invokevirtual 184, 3) := by decide +kernel
theorem dX5_write_44 : decode cX5_write 44 = .ok (.ireturn, 1) := by decide +kernel
theorem dX5_write_45 : decode cX5_write 45 = .ok (.iconst 0, 1) := by decide +kernel
theorem dX5_write_46 : decode cX5_write 46 = .ok (.istore_n 2, 1) := by decide +kernel
theorem dX5_write_47 : decode cX5_write 47 = .ok (.iload_n 2, 1) := by decide +kernel
theorem dX5_write_48 : decode cX5_write 48 = .ok (.aload_n 0, 1) := by decide +kernel
theorem dX5_write_49 : decode cX5_write 49 = .ok (.getfield 96, 3) := by decide +kernel
theorem dX5_write_52 : decode cX5_write 52 = .ok (.if_icmp .ge 26, 3) := by decide +kernel
theorem dX5_write_55 : decode cX5_write 55 = .ok (.aload_n 0, 1) := by decide +kernel
theorem dX5_write_56 : decode cX5_write 56 = .ok (.getfield 45, 3) := by decide +kernel
theorem dX5_write_59 : decode cX5_write 59 = .ok (.bipush 20, 2) := by decide +kernel
theorem dX5_write_61 : decode cX5_write 61 = .ok (.iload_n 1, 1) := by decide +kernel
theorem dX5_write_62 : decode cX5_write 62 = .ok (.imul, 1) := by decide +kernel
theorem dX5_write_63 : decode cX5_write 63 = .ok (.iload_n 2, 1) := by decide +kernel
theorem dX5_write_64 : decode cX5_write 64 = .ok (.iadd, 1) := by decide +kernel
theorem dX5_write_65 : decode cX5_write 65 = .ok (.aload_n 0, 1) := by decide +kernel
theorem dX5_write_66 : decode cX5_write 66 = .ok (.getfield 36, 3) := by decide +kernel
theorem dX5_write_69 : decode cX5_write 69 = .ok (.iload_n 2, 1) := by decide +kernel
theorem dX5_write_70 : decode cX5_write 70 = .ok (.iaload, 1) := by decide +kernel
theorem dX5_write_71 : decode cX5_write 71 = .ok (.iastore, 1) := by decide +kernel
theorem dX5_write_72 : decode cX5_write 72 = .ok (.iinc 2 1, 3) := by decide +kernel
theorem dX5_write_75 : decode cX5_write 75 = .ok (.goto (-28), 3) := by decide +kernel
theorem dX5_write_78 : decode cX5_write 78 = .ok (.aload_n 0, 1) := by decide +kernel
theorem dX5_write_79 : decode cX5_write 79 = .ok (.getfield 96, 3) := by decide +kernel
theorem dX5_write_82 : decode cX5_write 82 = .ok (.ireturn, 1) := by decide +kernel
theorem dX5_count_0 : decode cX5_count 0 = .ok (.iload_n 1, 1) := by decide +kernel
theorem dX5_count_1 : decode cX5_count 1 = .ok (.tableswitch 91 0 6 #[43, 48, 53, 58, 71, 76, 86], 43) := by decide +kernel
theorem dX5_count_44 : decode cX5_count 44 = .ok (.aload_n 0, 1) := by decide +kernel
theorem dX5_count_45 : decode cX5_count 45 = .ok (.getfield 74, 3) := by decide +kernel
theorem dX5_count_48 : decode cX5_count 48 = .ok (.ireturn, 1) := by decide +kernel
theorem dX5_count_49 : decode cX5_count 49 = .ok (.aload_n 0, 1) := by decide +kernel
theorem dX5_count_50 : decode cX5_count 50 = .ok (.getfield 77, 3) := by decide +kernel
theorem dX5_count_53 : decode cX5_count 53 = .ok (.ireturn, 1) := by decide +kernel
theorem dX5_count_54 : decode cX5_count 54 = .ok (.aload_n 0, 1) := by decide +kernel
theorem dX5_count_55 : decode cX5_count 55 = .ok (.getfield 80, 3) := by decide +kernel
theorem dX5_count_58 : decode cX5_count 58 = .ok (.ireturn, 1) := by decide +kernel
theorem dX5_count_59 : decode cX5_count 59 = .ok (.aload_n 0, 1) := by decide +kernel
theorem dX5_count_60 : decode cX5_count 60 = .ok (.getfield 83, 3) := by decide +kernel
theorem dX5_count_63 : decode cX5_count 63 = .ok (.ifCond .eq 7, 3) := by decide +kernel
theorem dX5_count_66 : decode cX5_count 66 = .ok (.iconst 1, 1) := by decide +kernel
theorem dX5_count_67 : decode cX5_count 67 = .ok (.goto 4, 3) := by decide +kernel
theorem dX5_count_70 : decode cX5_count 70 = .ok (.iconst 0, 1) := by decide +kernel
theorem dX5_count_71 : decode cX5_count 71 = .ok (.ireturn, 1) := by decide +kernel
theorem dX5_count_72 : decode cX5_count 72 = .ok (.aload_n 0, 1) := by decide +kernel
theorem dX5_count_73 : decode cX5_count 73 = .ok (.getfield 71, 3) := by decide +kernel
theorem dX5_count_76 : decode cX5_count 76 = .ok (.ireturn, 1) := by decide +kernel
theorem dX5_count_77 : decode cX5_count 77 = .ok (.aload_n 0, 1) := by decide +kernel
theorem dX5_count_78 : decode cX5_count 78 = .ok (.getfield 74, 3) := by decide +kernel
theorem dX5_count_81 : decode cX5_count 81 = .ok (.aload_n 0, 1) := by decide +kernel
theorem dX5_count_82 : decode cX5_count 82 = .ok (.getfield 77, 3) := by decide +kernel
theorem dX5_count_85 : decode cX5_count 85 = .ok (.imul, 1) := by decide +kernel
theorem dX5_count_86 : decode cX5_count 86 = .ok (.ireturn, 1) := by decide +kernel
theorem dX5_count_87 : decode cX5_count 87 = .ok (.aload_n 0, 1) := by decide +kernel
theorem dX5_count_88 : decode cX5_count 88 = .ok (.getfield 176, 3) := by decide +kernel
theorem dX5_count_91 : decode cX5_count 91 = .ok (.ireturn, 1) := by decide +kernel
theorem dX5_count_92 : decode cX5_count 92 = .ok (.sipush (-200), 3) := by decide +kernel
theorem dX5_count_95 : decode cX5_count 95 = .ok (.ireturn, 1) := by decide +kernel
theorem dX5_digest_0 : decode cX5_digest 0 = .ok (.ldc2_w 199, 3) := by decide +kernel
theorem dX5_digest_3 : decode cX5_digest 3 = .ok (.lstore_n 1, 1) := by decide +kernel
theorem dX5_digest_4 : decode cX5_digest 4 = .ok (.iconst 0, 1) := by decide +kernel
theorem dX5_digest_5 : decode cX5_digest 5 = .ok (.istore_n 3, 1) := by decide +kernel
theorem dX5_digest_6 : decode cX5_digest 6 = .ok (.iload_n 3, 1) := by decide +kernel
theorem dX5_digest_7 : decode cX5_digest 7 = .ok (.bipush 6, 2) := by decide +kernel
theorem dX5_digest_9 : decode cX5_digest 9 = .ok (.if_icmp .ge 22, 3) := by decide +kernel
theorem dX5_digest_12 : decode cX5_digest 12 = .ok (.ldc2_w 201, 3) := by decide +kernel
theorem dX5_digest_15 : decode cX5_digest 15 = .ok (.lload_n 1, 1) := by decide +kernel
theorem dX5_digest_16 : decode cX5_digest 16 = .ok (.lmul, 1) := by decide +kernel
theorem dX5_digest_17 : decode cX5_digest 17 = .ok (.aload_n 0, 1) := by decide +kernel
theorem dX5_digest_18 : decode cX5_digest 18 = .ok (.iload_n 3, 1) := by decide +kernel
theorem dX5_digest_19 : decode cX5_digest 19 = .ok (.invokevirtual 203, 3) := by decide +kernel
theorem dX5_digest_22 : decode cX5_digest 22 = .ok (.i2l, 1) := by decide +kernel
theorem dX5_digest_23 : decode cX5_digest 23 = .ok (.ladd, 1) := by decide +kernel
theorem dX5_digest_24 : decode cX5_digest 24 = .ok (.lstore_n 1, 1) := by decide +kernel
theorem dX5_digest_25 : decode cX5_digest 25 = .ok (.iinc 3 1, 3) := by decide +kernel
theorem dX5_digest_28 : decode cX5_digest 28 = .ok (.goto (-22), 3) := by decide +kernel
theorem dX5_digest_31 : decode cX5_digest 31 = .ok (.iconst 0, 1) := by decide +kernel
theorem dX5_digest_32 : decode cX5_digest 32 = .ok (.istore_n 3, 1) := by decide +kernel
theorem dX5_digest_33 : decode cX5_digest 33 = .ok (.iload_n 3, 1) := by decide +kernel
theorem dX5_digest_34 : decode cX5_digest 34 = .ok (.iconst 5, 1) := by decide +kernel
theorem dX5_digest_35 : decode cX5_digest 35 = .ok (.if_icmp .ge 22, 3) := by decide +kernel
theorem dX5_digest_38 : decode cX5_digest 38 = .ok (.ldc2_w 201, 3) := by decide +kernel
theorem dX5_digest_41 : decode cX5_digest 41 = .ok (.lload_n 1, 1) := by decide +kernel
theorem dX5_digest_42 : decode cX5_digest 42 = .ok (.lmul, 1) := by decide +kernel
theorem dX5_digest_43 : decode cX5_digest 43 = .ok (.aload_n 0, 1) := by decide +kernel
theorem dX5_digest_44 : decode cX5_digest 44 = .ok (.iload_n 3, 1) := by decide +kernel
theorem dX5_digest_45 : decode cX5_digest 45 = .ok (.invokevirtual 196, 3) := by decide +kernel
theorem dX5_digest_48 : decode cX5_digest 48 = .ok (.i2l, 1) := by decide +kernel
theorem dX5_digest_49 : decode cX5_digest 49 = .ok (.ladd, 1) := by decide +kernel
theorem dX5_digest_50 : decode cX5_digest 50 = .ok (.lstore_n 1, 1) := by decide +kernel
theorem dX5_digest_51 : decode cX5_digest 51 = .ok (.iinc 3 1, 3) := by decide +kernel
theorem dX5_digest_54 : decode cX5_digest 54 = .ok (.goto (-21), 3) := by decide +kernel
theorem dX5_digest_57 : decode cX5_digest 57 = .ok (.iconst 0, 1) := by decide +kernel
theorem dX5_digest_58 : decode cX5_digest 58 = .ok (.istore_n 3, 1) := by decide +kernel
theorem dX5_digest_59 : decode cX5_digest 59 = .ok (.iload_n 3, 1) := by decide +kernel
theorem dX5_digest_60 : decode cX5_digest 60 = .ok (.aload_n 0, 1) := by decide +kernel
theorem dX5_digest_61 : decode cX5_digest 61 = .ok (.getfield 96, 3) := by decide +kernel
theorem dX5_digest_64 : decode cX5_digest 64 = .ok (.if_icmp .ge 23, 3) := by decide +kernel
theorem dX5_digest_67 : decode cX5_digest 67 = .ok (.ldc2_w 201, 3) := by decide +kernel
theorem dX5_digest_70 : decode cX5_digest 70 = .ok (.lload_n 1, 1) := by decide +kernel
theorem dX5_digest_71 : decode cX5_digest 71 = .ok (.lmul, 1) := by decide +kernel
theorem dX5_digest_72 : decode cX5_digest 72 = .ok (.aload_n 0, 1) := by decide +kernel
theorem dX5_digest_73 : decode cX5_digest 73 = .ok (.getfield 36, 3) := by decide +kernel
theorem dX5_digest_76 : decode cX5_digest 76 = .ok (.iload_n 3, 1) := by decide +kernel
theorem dX5_digest_77 : decode cX5_digest 77 = .ok (.iaload, 1) := by decide +kernel
theorem dX5_digest_78 : decode cX5_digest 78 = .ok (.i2l, 1) := by decide +kernel
theorem dX5_digest_79 : decode cX5_digest 79 = .ok (.ladd, 1) := by decide +kernel
theorem dX5_digest_80 : decode cX5_digest 80 = .ok (.lstore_n 1, 1) := by decide +kernel
theorem dX5_digest_81 : decode cX5_digest 81 = .ok (.iinc 3 1, 3) := by decide +kernel
theorem dX5_digest_84 : decode cX5_digest 84 = .ok (.goto (-25), 3) := by decide +kernel
theorem dX5_digest_87 : decode cX5_digest 87 = .ok (.iconst 0, 1) := by decide +kernel
theorem dX5_digest_88 : decode cX5_digest 88 = .ok (.istore_n 3, 1) := by decide +kernel
theorem dX5_digest_89 : decode cX5_digest 89 = .ok (.iload_n 3, 1) := by decide +kernel
theorem dX5_digest_90 : decode cX5_digest 90 = .ok (.aload_n 0, 1) := by decide +kernel
theorem dX5_digest_91 : decode cX5_digest 91 = .ok (.getfield 74, 3) := by decide +kernel
theorem dX5_digest_94 : decode cX5_digest 94 = .ok (.aload_n 0, 1) := by decide +kernel
theorem dX5_digest_95 : decode cX5_digest 95 = .ok (.getfield 77, 3) := by decide +kernel
theorem dX5_digest_98 : decode cX5_digest 98 = .ok (.imul, 1) := by decide +kernel
theorem dX5_digest_99 : decode cX5_digest 99 = .ok (.if_icmp .ge 22, 3) := by decide +kernel
theorem dX5_digest_102 : decode cX5_digest 102 = .ok (.ldc2_w 201, 3) := by decide +kernel
theorem dX5_digest_105 : decode cX5_digest 105 = .ok (.lload_n 1, 1) := by decide +kernel
theorem dX5_digest_106 : decode cX5_digest 106 = .ok (.lmul, 1) := by decide +kernel
theorem dX5_digest_107 : decode cX5_digest 107 = .ok (.aload_n 0, 1) := by decide +kernel
theorem dX5_digest_108 : decode cX5_digest 108 = .ok (.iload_n 3, 1) := by decide +kernel
theorem dX5_digest_109 : decode cX5_digest 109 = .ok (.invokevirtual 205, 3) := by decide +kernel
theorem dX5_digest_112 : decode cX5_digest 112 = .ok (.i2l, 1) := by decide +kernel
theorem dX5_digest_113 : decode cX5_digest 113 = .ok (.ladd, 1) := by decide +kernel
theorem dX5_digest_114 : decode cX5_digest 114 = .ok (.lstore_n 1, 1) := by decide +kernel
theorem dX5_digest_115 : decode cX5_digest 115 = .ok (.iinc 3 1, 3) := by decide +kernel
theorem dX5_digest_118 : decode cX5_digest 118 = .ok (.goto (-29), 3) := by decide +kernel
theorem dX5_digest_121 : decode cX5_digest 121 = .ok (.lload_n 1, 1) := by decide +kernel
theorem dX5_digest_122 : decode cX5_digest 122 = .ok (.lreturn, 1) := by decide +kernel
