/-! the instructions, decoded -/
theorem dX0_init_0 : decode cX0_init 0 = .ok (.aload_n 0, 1) := by decide +kernel
theorem dX0_init_1 : decode cX0_init 1 = .ok (.invokespecial 3, 3) := by decide +kernel
theorem dX0_init_4 : decode cX0_init 4 = .ok (.aload_n 0, 1) := by decide +kernel
theorem dX0_init_5 : decode cX0_init 5 = .ok (.bipush 16, 2) := by decide +kernel
theorem dX0_init_7 : decode cX0_init 7 = .ok (.newarray .int, 2) := by decide +kernel
theorem dX0_init_9 : decode cX0_init 9 = .ok (.putfield 9, 3) := by decide +kernel
theorem dX0_init_12 : decode cX0_init 12 = .ok (.aload_n 0, 1) := by decide +kernel
theorem dX0_init_13 : decode cX0_init 13 = .ok (.iconst 2, 1) := by decide +kernel
theorem dX0_init_14 : decode cX0_init 14 = .ok (.newarray .int, 2) := by decide +kernel
theorem dX0_init_16 : decode cX0_init 16 = .ok (.putfield 15, 3) := by decide +kernel
theorem dX0_init_19 : decode cX0_init 19 = .ok (.aload_n 0, 1) := by decide +kernel
theorem dX0_init_20 : decode cX0_init 20 = .ok (.bipush 7, 2) := by decide +kernel
theorem dX0_init_22 : decode cX0_init 22 = .ok (.newarray .int, 2) := by decide +kernel
theorem dX0_init_24 : decode cX0_init 24 = .ok (.putfield 18, 3) := by decide +kernel
theorem dX0_init_27 : decode cX0_init 27 = .ok (.aload_n 0, 1) := by decide +kernel
theorem dX0_init_28 : decode cX0_init 28 = .ok (.aload_n 1, 1) := by decide +kernel
theorem dX0_init_29 : decode cX0_init 29 = .ok (.putfield 21, 3) := by decide +kernel
theorem dX0_init_32 : decode cX0_init 32 = .ok (.return_, 1) := by decide +kernel
theorem dX0_clear_0 : decode cX0_clear 0 = .ok (.aload_n 0, 1) := by decide +kernel
theorem dX0_clear_1 : decode cX0_clear 1 = .ok (.iconst 0, 1) := by decide +kernel
theorem dX0_clear_2 : decode cX0_clear 2 = .ok (.putfield 25, 3) := by decide +kernel
theorem dX0_clear_5 : decode cX0_clear 5 = .ok (.aload_n 0, 1) := by decide +kernel
theorem dX0_clear_6 : decode cX0_clear 6 = .ok (.getfield 15, 3) := by decide +kernel
theorem dX0_clear_9 : decode cX0_clear 9 = .ok (.iconst 0, 1) := by decide +kernel
theorem dX0_clear_10 : decode cX0_clear 10 = .ok (.invokestatic 29, 3) := by decide +kernel
theorem dX0_clear_13 : decode cX0_clear 13 = .ok (.aload_n 0, 1) := by decide +kernel
theorem dX0_clear_14 : decode cX0_clear 14 = .ok (.getfield 18, 3) := by decide +kernel
theorem dX0_clear_17 : decode cX0_clear 17 = .ok (.iconst 0, 1) := by decide +kernel
theorem dX0_clear_18 : decode cX0_clear 18 = .ok (.invokestatic 29, 3) := by decide +kernel
theorem dX0_clear_21 : decode cX0_clear 21 = .ok (.return_, 1) := by decide +kernel
theorem dX0_follow_0 : decode cX0_follow 0 = .ok (.aload_n 0, 1) := by decide +kernel
theorem dX0_follow_1 : decode cX0_follow 1 = .ok (.invokevirtual 35, 3) := by decide +kernel
theorem dX0_follow_4 : decode cX0_follow 4 = .ok (.iconst 0, 1) := by decide +kernel
theorem dX0_follow_5 : decode cX0_follow 5 = .ok (.istore_n 2, 1) := by decide +kernel
theorem dX0_follow_6 : decode cX0_follow 6 = .ok (.iload_n 2, 1) := by decide +kernel
theorem dX0_follow_7 : decode cX0_follow 7 = .ok (.aload_n 1, 1) := by decide +kernel
theorem dX0_follow_8 : decode cX0_follow 8 = .ok (.getfield 25, 3) := by decide +kernel
theorem dX0_follow_11 : decode cX0_follow 11 = .ok (.if_icmp .ge 20, 3) := by decide +kernel
theorem dX0_follow_14 : decode cX0_follow 14 = .ok (.aload_n 0, 1) := by decide +kernel
theorem dX0_follow_15 : decode cX0_follow 15 = .ok (.aload_n 1, 1) := by decide +kernel
theorem dX0_follow_16 : decode cX0_follow 16 = .ok (.getfield 9, 3) := by decide +kernel
theorem dX0_follow_19 : decode cX0_follow 19 = .ok (.iload_n 2, 1) := by decide +kernel
theorem dX0_follow_20 : decode cX0_follow 20 = .ok (.iaload, 1) := by decide +kernel
theorem dX0_follow_21 : decode cX0_follow 21 = .ok (.invokevirtual 38, 3) := by decide +kernel
theorem dX0_follow_24 : decode cX0_follow 24 = .ok (.pop, 1) := by decide +kernel
theorem dX0_follow_25 : decode cX0_follow 25 = .ok (.iinc 2 1, 3) := by decide +kernel
theorem dX0_follow_28 : decode cX0_follow 28 = .ok (.goto (-22), 3) := by decide +kernel
theorem dX0_follow_31 : decode cX0_follow 31 = .ok (.return_, 1) := by decide +kernel
theorem dX0_isOpen_0 : decode cX0_isOpen 0 = .ok (.iload_n 1, 1) := by decide +kernel
theorem dX0_isOpen_1 : decode cX0_isOpen 1 = .ok (.iconst 0, 1) := by decide +kernel
theorem dX0_isOpen_2 : decode cX0_isOpen 2 = .ok (.aload_n 0, 1) := by decide +kernel
theorem dX0_isOpen_3 : decode cX0_isOpen 3 = .ok (.getfield 21, 3) := by decide +kernel
theorem dX0_isOpen_6 : decode cX0_isOpen 6 = .ok (.getfield 42, 3) := by decide +kernel
theorem dX0_isOpen_9 : decode cX0_isOpen 9 = .ok (.iconst 1, 1) := by decide +kernel
theorem dX0_isOpen_10 : decode cX0_isOpen 10 = .ok (.isub, 1) := by decide +kernel
theorem dX0_isOpen_11 : decode cX0_isOpen 11 = .ok (.invokestatic 47, 3) := by decide +kernel
theorem dX0_isOpen_14 : decode cX0_isOpen 14 = .ok (.ifCond .eq 23, 3) := by decide +kernel
theorem dX0_isOpen_17 : decode cX0_isOpen 17 = .ok (.aload_n 0, 1) := by decide +kernel
theorem dX0_isOpen_18 : decode cX0_isOpen 18 = .ok (.getfield 18, 3) := by decide +kernel
theorem dX0_isOpen_21 : decode cX0_isOpen 21 = .ok (.iload_n 1, 1) := by decide +kernel
theorem dX0_isOpen_22 : decode cX0_isOpen 22 = .ok (.iaload, 1) := by decide +kernel
theorem dX0_isOpen_23 : decode cX0_isOpen 23 = .ok (.aload_n 0, 1) := by decide +kernel
theorem dX0_isOpen_24 : decode cX0_isOpen 24 = .ok (.getfield 21, 3) := by decide +kernel
theorem dX0_isOpen_27 : decode cX0_isOpen 27 = .ok (.getfield 51, 3) := by decide +kernel
theorem dX0_isOpen_30 : decode cX0_isOpen 30 = .ok (.if_icmp .ge 7, 3) := by decide +kernel
theorem dX0_isOpen_33 : decode cX0_isOpen 33 = .ok (.iconst 1, 1) := by decide +kernel
theorem dX0_isOpen_34 : decode cX0_isOpen 34 = .ok (.goto 4, 3) := by decide +kernel
theorem dX0_isOpen_37 : decode cX0_isOpen 37 = .ok (.iconst 0, 1) := by decide +kernel
theorem dX0_isOpen_38 : decode cX0_isOpen 38 = .ok (.ireturn, 1) := by decide +kernel
theorem dX0_make_0 : decode cX0_make 0 = .ok (.aload_n 0, 1) := by decide +kernel
theorem dX0_make_1 : decode cX0_make 1 = .ok (.iload_n 1, 1) := by decide +kernel
theorem dX0_make_2 : decode cX0_make 2 = .ok (.invokevirtual 54, 3) := by decide +kernel
theorem dX0_make_5 : decode cX0_make 5 = .ok (.ifCond .eq 12, 3) := by decide +kernel
theorem dX0_make_8 : decode cX0_make 8 = .ok (.aload_n 0, 1) := by decide +kernel
theorem dX0_make_9 : decode cX0_make 9 = .ok (.getfield 25, 3) := by decide +kernel
theorem dX0_make_12 : decode cX0_make 12 = .ok (.bipush 16, 2) := by decide +kernel
theorem dX0_make_14 : decode cX0_make 14 = .ok (.if_icmp .lt 5, 3) := by decide +kernel
theorem dX0_make_17 : decode cX0_make 17 = .ok (.iconst (-1), 1) := by decide +kernel
theorem dX0_make_18 : decode cX0_make 18 = .ok (.ireturn, 1) := by decide +kernel
theorem dX0_make_19 : decode cX0_make 19 = .ok (.aload_n 0, 1) := by decide +kernel
theorem dX0_make_20 : decode cX0_make 20 = .ok (.iload_n 1, 1) := by decide +kernel
theorem dX0_make_21 : decode cX0_make 21 = .ok (.invokevirtual 58, 3) := by decide +kernel
theorem dX0_make_24 : decode cX0_make 24 = .ok (.istore_n 2, 1) := by decide +kernel
theorem dX0_make_25 : decode cX0_make 25 = .ok (.aload_n 0, 1) := by decide +kernel
theorem dX0_make_26 : decode cX0_make 26 = .ok (.getfield 15, 3) := by decide +kernel
theorem dX0_make_29 : decode cX0_make 29 = .ok (.aload_n 0, 1) := by decide +kernel
theorem dX0_make_30 : decode cX0_make 30 = .ok (.invokevirtual 61, 3) := by decide +kernel
theorem dX0_make_33 : decode cX0_make 33 = .ok (.dup2, 1) := by decide +kernel
theorem dX0_make_34 : decode cX0_make 34 = .ok (.iaload, 1) := by decide +kernel
theorem dX0_make_35 : decode cX0_make 35 = .ok (.iconst 1, 1) := by decide +kernel
theorem dX0_make_36 : decode cX0_make 36 = .ok (.iload_n 2, 1) := by decide +kernel
theorem dX0_make_37 : decode cX0_make 37 = .ok (.ishl, 1) := by decide +kernel
theorem dX0_make_38 : decode cX0_make 38 = .ok (.ior, 1) := by decide +kernel
theorem dX0_make_39 : decode cX0_make 39 = .ok (.iastore, 1) := by decide +kernel
theorem dX0_make_40 : decode cX0_make 40 = .ok (.aload_n 0, 1) := by decide +kernel
theorem dX0_make_41 : decode cX0_make 41 = .ok (.getfield 18, 3) := by decide +kernel
theorem dX0_make_44 : decode cX0_make 44 = .ok (.iload_n 1, 1) := by decide +kernel
theorem dX0_make_45 : decode cX0_make 45 = .ok (.dup2, 1) := by decide +kernel
theorem dX0_make_46 : decode cX0_make 46 = .ok (.iaload, 1) := by decide +kernel
theorem dX0_make_47 : decode cX0_make 47 = .ok (.iconst 1, 1) := by decide +kernel
theorem dX0_make_48 : decode cX0_make 48 = .ok (.iadd, 1) := by decide +kernel
theorem dX0_make_49 : decode cX0_make 49 = .ok (.iastore, 1) := by decide +kernel
theorem dX0_make_50 : decode cX0_make 50 = .ok (.aload_n 0, 1) := by decide +kernel
theorem dX0_make_51 : decode cX0_make 51 = .ok (.getfield 9, 3) := by decide +kernel
theorem dX0_make_54 : decode cX0_make 54 = .ok (.aload_n 0, 1) := by decide +kernel
theorem dX0_make_55 : decode cX0_make 55 = .ok (.getfield 25, 3) := by decide +kernel
theorem dX0_make_58 : decode cX0_make 58 = .ok (.iload_n 1, 1) := by decide +kernel
theorem dX0_make_59 : decode cX0_make 59 = .ok (.iastore, 1) := by decide +kernel
theorem dX0_make_60 : decode cX0_make 60 = .ok (.aload_n 0, 1) := by decide +kernel
theorem dX0_make_61 : decode cX0_make 61 = .ok (.dup, 1) := by decide +kernel
theorem dX0_make_62 : decode cX0_make 62 = .ok (.getfield 25, 3) := by decide +kernel
theorem dX0_make_65 : decode cX0_make 65 = .ok (.iconst 1, 1) := by decide +kernel
theorem dX0_make_66 : decode cX0_make 66 = .ok (.iadd, 1) := by decide +kernel
theorem dX0_make_67 : decode cX0_make 67 = .ok (.putfield 25, 3) := by decide +kernel
theorem dX0_make_70 : decode cX0_make 70 = .ok (.iload_n 2, 1) := by decide +kernel
theorem dX0_make_71 : decode cX0_make 71 = .ok (.ireturn, 1) := by decide +kernel
theorem dX0_unmake_0 : decode cX0_unmake 0 = .ok (.aload_n 0, 1) := by decide +kernel
theorem dX0_unmake_1 : decode cX0_unmake 1 = .ok (.getfield 25, 3) := by decide +kernel
theorem dX0_unmake_4 : decode cX0_unmake 4 = .ok (.iconst 1, 1) := by decide +kernel
theorem dX0_unmake_5 : decode cX0_unmake 5 = .ok (.if_icmp .ge 4, 3) := by decide +kernel
theorem dX0_unmake_8 : decode cX0_unmake 8 = .ok (.return_, 1) := by decide +kernel
theorem dX0_unmake_9 : decode cX0_unmake 9 = .ok (.aload_n 0, 1) := by decide +kernel
theorem dX0_unmake_10 : decode cX0_unmake 10 = .ok (.dup, 1) := by decide +kernel
theorem dX0_unmake_11 : decode cX0_unmake 11 = .ok (.getfield 25, 3) := by decide +kernel
theorem dX0_unmake_14 : decode cX0_unmake 14 = .ok (.iconst 1, 1) := by decide +kernel
theorem dX0_unmake_15 : decode cX0_unmake 15 = .ok (.isub, 1) := by decide +kernel
theorem dX0_unmake_16 : decode cX0_unmake 16 = .ok (.putfield 25, 3) := by decide +kernel
theorem dX0_unmake_19 : decode cX0_unmake 19 = .ok (.aload_n 0, 1) := by decide +kernel
theorem dX0_unmake_20 : decode cX0_unmake 20 = .ok (.getfield 9, 3) := by decide +kernel
theorem dX0_unmake_23 : decode cX0_unmake 23 = .ok (.aload_n 0, 1) := by decide +kernel
theorem dX0_unmake_24 : decode cX0_unmake 24 = .ok (.getfield 25, 3) := by decide +kernel
theorem dX0_unmake_27 : decode cX0_unmake 27 = .ok (.iaload, 1) := by decide +kernel
theorem dX0_unmake_28 : decode cX0_unmake 28 = .ok (.istore_n 1, 1) := by decide +kernel
theorem dX0_unmake_29 : decode cX0_unmake 29 = .ok (.aload_n 0, 1) := by decide +kernel
theorem dX0_unmake_30 : decode cX0_unmake 30 = .ok (.getfield 18, 3) := by decide +kernel
theorem dX0_unmake_33 : decode cX0_unmake 33 = .ok (.iload_n 1, 1) := by decide +kernel
theorem dX0_unmake_34 : decode cX0_unmake 34 = .ok (.dup2, 1) := by decide +kernel
theorem dX0_unmake_35 : decode cX0_unmake 35 = .ok (.iaload, 1) := by decide +kernel
theorem dX0_unmake_36 : decode cX0_unmake 36 = .ok (.iconst 1, 1) := by decide +kernel
theorem dX0_unmake_37 : decode cX0_unmake 37 = .ok (.isub, 1) := by decide +kernel
theorem dX0_unmake_38 : decode cX0_unmake 38 = .ok (.iastore, 1) := by decide +kernel
theorem dX0_unmake_39 : decode cX0_unmake 39 = .ok (.aload_n 0, 1) := by decide +kernel
theorem dX0_unmake_40 : decode cX0_unmake 40 = .ok (.getfield 15, 3) := by decide +kernel
theorem dX0_unmake_43 : decode cX0_unmake 43 = .ok (.aload_n 0, 1) := by decide +kernel
theorem dX0_unmake_44 : decode cX0_unmake 44 = .ok (.invokevirtual 61, 3) := by decide +kernel
theorem dX0_unmake_47 : decode cX0_unmake 47 = .ok (.dup2, 1) := by decide +kernel
theorem dX0_unmake_48 : decode cX0_unmake 48 = .ok (.iaload, 1) := by decide +kernel
theorem dX0_unmake_49 : decode cX0_unmake 49 = .ok (.iconst 1, 1) := by decide +kernel
theorem dX0_unmake_50 : decode cX0_unmake 50 = .ok (.aload_n 0, 1) := by decide +kernel
theorem dX0_unmake_51 : decode cX0_unmake 51 = .ok (.iload_n 1, 1) := by decide +kernel
theorem dX0_unmake_52 : decode cX0_unmake 52 = .ok (.invokevirtual 58, 3) := by decide +kernel
theorem dX0_unmake_55 : decode cX0_unmake 55 = .ok (.ishl, 1) := by decide +kernel
theorem dX0_unmake_56 : decode cX0_unmake 56 = .ok (.iconst (-1), 1) := by decide +kernel
theorem dX0_unmake_57 : decode cX0_unmake 57 = .ok (.ixor, 1) := by decide +kernel
theorem dX0_unmake_58 : decode cX0_unmake 58 = .ok (.iand, 1) := by decide +kernel
theorem dX0_unmake_59 : decode cX0_unmake 59 = .ok (.iastore, 1) := by decide +kernel
theorem dX0_unmake_60 : decode cX0_unmake 60 = .ok (.return_, 1) := by decide +kernel
theorem dX0_squareIn_0 : decode cX0_squareIn 0 = .ok (.aload_n 0, 1) := by decide +kernel
theorem dX0_squareIn_1 : decode cX0_squareIn 1 = .ok (.getfield 21, 3) := by decide +kernel
theorem dX0_squareIn_4 : decode cX0_squareIn 4 = .ok (.getfield 42, 3) := by decide +kernel
theorem dX0_squareIn_7 : decode cX0_squareIn 7 = .ok (.aload_n 0, 1) := by decide +kernel
theorem dX0_squareIn_8 : decode cX0_squareIn 8 = .ok (.getfield 18, 3) := by decide +kernel
theorem dX0_squareIn_11 : decode cX0_squareIn 11 = .ok (.iload_n 1, 1) := by decide +kernel
theorem dX0_squareIn_12 : decode cX0_squareIn 12 = .ok (.iaload, 1) := by decide +kernel
theorem dX0_squareIn_13 : decode cX0_squareIn 13 = .ok (.imul, 1) := by decide +kernel
theorem dX0_squareIn_14 : decode cX0_squareIn 14 = .ok (.iload_n 1, 1) := by decide +kernel
theorem dX0_squareIn_15 : decode cX0_squareIn 15 = .ok (.iadd, 1) := by decide +kernel
theorem dX0_squareIn_16 : decode cX0_squareIn 16 = .ok (.ireturn, 1) := by decide +kernel
theorem dX0_side_0 : decode cX0_side 0 = .ok (.aload_n 0, 1) := by decide +kernel
theorem dX0_side_1 : decode cX0_side 1 = .ok (.getfield 25, 3) := by decide +kernel
theorem dX0_side_4 : decode cX0_side 4 = .ok (.iconst 1, 1) := by decide +kernel
theorem dX0_side_5 : decode cX0_side 5 = .ok (.iand, 1) := by decide +kernel
theorem dX0_side_6 : decode cX0_side 6 = .ok (.ireturn, 1) := by decide +kernel
theorem dX0_state_0 : decode cX0_state 0 = .ok (.aload_n 0, 1) := by decide +kernel
theorem dX0_state_1 : decode cX0_state 1 = .ok (.getfield 21, 3) := by decide +kernel
theorem dX0_state_4 : decode cX0_state 4 = .ok (.aload_n 0, 1) := by decide +kernel
theorem dX0_state_5 : decode cX0_state 5 = .ok (.getfield 15, 3) := by decide +kernel
theorem dX0_state_8 : decode cX0_state 8 = .ok (.iconst 1, 1) := by decide +kernel
theorem dX0_state_9 : decode cX0_state 9 = .ok (.aload_n 0, 1) := by decide +kernel
theorem dX0_state_10 : decode cX0_state 10 = .ok (.invokevirtual 61, 3) := by decide +kernel
theorem dX0_state_13 : decode cX0_state 13 = .ok (.isub, 1) := by decide +kernel
theorem dX0_state_14 : decode cX0_state 14 = .ok (.iaload, 1) := by decide +kernel
theorem dX0_state_15 : decode cX0_state 15 = .ok (.invokevirtual 65, 3) := by decide +kernel
theorem dX0_state_18 : decode cX0_state 18 = .ok (.ifCond .eq 5, 3) := by decide +kernel
theorem dX0_state_21 : decode cX0_state 21 = .ok (.iconst 1, 1) := by decide +kernel
theorem dX0_state_22 : decode cX0_state 22 = .ok (.ireturn, 1) := by decide +kernel
theorem dX0_state_23 : decode cX0_state 23 = .ok (.aload_n 0, 1) := by decide +kernel
theorem dX0_state_24 : decode cX0_state 24 = .ok (.getfield 25, 3) := by decide +kernel
theorem dX0_state_27 : decode cX0_state 27 = .ok (.aload_n 0, 1) := by decide +kernel
theorem dX0_state_28 : decode cX0_state 28 = .ok (.getfield 21, 3) := by decide +kernel
theorem dX0_state_31 : decode cX0_state 31 = .ok (.getfield 68, 3) := by decide +kernel
theorem dX0_state_34 : decode cX0_state 34 = .ok (.if_icmp .lt 7, 3) := by decide +kernel
theorem dX0_state_37 : decode cX0_state 37 = .ok (.iconst 2, 1) := by decide +kernel
theorem dX0_state_38 : decode cX0_state 38 = .ok (.goto 4, 3) := by decide +kernel
theorem dX0_state_41 : decode cX0_state 41 = .ok (.iconst 0, 1) := by decide +kernel
theorem dX0_state_42 : decode cX0_state 42 = .ok (.ireturn, 1) := by decide +kernel
theorem dX0_isOver_0 : decode cX0_isOver 0 = .ok (.aload_n 0, 1) := by decide +kernel
theorem dX0_isOver_1 : decode cX0_isOver 1 = .ok (.invokevirtual 71, 3) := by decide +kernel
theorem dX0_isOver_4 : decode cX0_isOver 4 = .ok (.ifCond .eq 7, 3) := by decide +kernel
theorem dX0_isOver_7 : decode cX0_isOver 7 = .ok (.iconst 1, 1) := by decide +kernel
theorem dX0_isOver_8 : decode cX0_isOver 8 = .ok (.goto 4, 3) := by decide +kernel
theorem dX0_isOver_11 : decode cX0_isOver 11 = .ok (.iconst 0, 1) := by decide +kernel
theorem dX0_isOver_12 : decode cX0_isOver 12 = .ok (.ireturn, 1) := by decide +kernel
theorem dX0_manOn_0 : decode cX0_manOn 0 = .ok (.aload_n 0, 1) := by decide +kernel
theorem dX0_manOn_1 : decode cX0_manOn 1 = .ok (.getfield 15, 3) := by decide +kernel
theorem dX0_manOn_4 : decode cX0_manOn 4 = .ok (.iconst 0, 1) := by decide +kernel
theorem dX0_manOn_5 : decode cX0_manOn 5 = .ok (.iaload, 1) := by decide +kernel
theorem dX0_manOn_6 : decode cX0_manOn 6 = .ok (.iload_n 1, 1) := by decide +kernel
theorem dX0_manOn_7 : decode cX0_manOn 7 = .ok (.ishr, 1) := by decide +kernel
theorem dX0_manOn_8 : decode cX0_manOn 8 = .ok (.iconst 1, 1) := by decide +kernel
theorem dX0_manOn_9 : decode cX0_manOn 9 = .ok (.iand, 1) := by decide +kernel
theorem dX0_manOn_10 : decode cX0_manOn 10 = .ok (.ifCond .eq 5, 3) := by decide +kernel
theorem dX0_manOn_13 : decode cX0_manOn 13 = .ok (.iconst 0, 1) := by decide +kernel
theorem dX0_manOn_14 : decode cX0_manOn 14 = .ok (.ireturn, 1) := by decide +kernel
theorem dX0_manOn_15 : decode cX0_manOn 15 = .ok (.aload_n 0, 1) := by decide +kernel
theorem dX0_manOn_16 : decode cX0_manOn 16 = .ok (.getfield 15, 3) := by decide +kernel
theorem dX0_manOn_19 : decode cX0_manOn 19 = .ok (.iconst 1, 1) := by decide +kernel
theorem dX0_manOn_20 : decode cX0_manOn 20 = .ok (.iaload, 1) := by decide +kernel
theorem dX0_manOn_21 : decode cX0_manOn 21 = .ok (.iload_n 1, 1) := by decide +kernel
theorem dX0_manOn_22 : decode cX0_manOn 22 = .ok (.ishr, 1) := by decide +kernel
theorem dX0_manOn_23 : decode cX0_manOn 23 = .ok (.iconst 1, 1) := by decide +kernel
theorem dX0_manOn_24 : decode cX0_manOn 24 = .ok (.iand, 1) := by decide +kernel
theorem dX0_manOn_25 : decode cX0_manOn 25 = .ok (.ifCond .eq 7, 3) := by decide +kernel
theorem dX0_manOn_28 : decode cX0_manOn 28 = .ok (.iconst 1, 1) := by decide +kernel
theorem dX0_manOn_29 : decode cX0_manOn 29 = .ok (.goto 4, 3) := by decide +kernel
theorem dX0_manOn_32 : decode cX0_manOn 32 = .ok (.iconst (-1), 1) := by decide +kernel
theorem dX0_manOn_33 : decode cX0_manOn 33 = .ok (.ireturn, 1) := by decide +kernel
theorem dX0_openColumns_0 : decode cX0_openColumns 0 = .ok (.iconst 0, 1) := by decide +kernel
theorem dX0_openColumns_1 : decode cX0_openColumns 1 = .ok (.istore_n 1, 1) := by decide +kernel
theorem dX0_openColumns_2 : decode cX0_openColumns 2 = .ok (.iconst 0, 1) := by decide +kernel
theorem dX0_openColumns_3 : decode cX0_openColumns 3 = .ok (.istore_n 2, 1) := by decide +kernel
theorem dX0_openColumns_4 : decode cX0_openColumns 4 = .ok (.iload_n 2, 1) := by decide +kernel
theorem dX0_openColumns_5 : decode cX0_openColumns 5 = .ok (.aload_n 0, 1) := by decide +kernel
theorem dX0_openColumns_6 : decode cX0_openColumns 6 = .ok (.getfield 21, 3) := by decide +kernel
theorem dX0_openColumns_9 : decode cX0_openColumns 9 = .ok (.getfield 42, 3) := by decide +kernel
theorem dX0_openColumns_12 : decode cX0_openColumns 12 = .ok (.if_icmp .ge 20, 3) := by decide +kernel
theorem dX0_openColumns_15 : decode cX0_openColumns 15 = .ok (.aload_n 0, 1) := by decide +kernel
theorem dX0_openColumns_16 : decode cX0_openColumns 16 = .ok (.iload_n 2, 1) := by decide +kernel
theorem dX0_openColumns_17 : decode cX0_openColumns 17 = .ok (.invokevirtual 54, 3) := by decide +kernel
theorem dX0_openColumns_20 : decode cX0_openColumns 20 = .ok (.ifCond .eq 6, 3) := by decide +kernel
theorem dX0_openColumns_23 : decode cX0_openColumns 23 = .ok (.iinc 1 1, 3) := by decide +kernel
theorem dX0_openColumns_26 : decode cX0_openColumns 26 = .ok (.iinc 2 1, 3) := by decide +kernel
theorem dX0_openColumns_29 : decode cX0_openColumns 29 = .ok (.goto (-25), 3) := by decide +kernel
theorem dX0_openColumns_32 : decode cX0_openColumns 32 = .ok (.iload_n 1, 1) := by decide +kernel
theorem dX0_openColumns_33 : decode cX0_openColumns 33 = .ok (.ireturn, 1) := by decide +kernel
theorem dX0_threatsOf_0 : decode cX0_threatsOf 0 = .ok (.iconst 0, 1) := by decide +kernel
theorem dX0_threatsOf_1 : decode cX0_threatsOf 1 = .ok (.istore_n 2, 1) := by decide +kernel
theorem dX0_threatsOf_2 : decode cX0_threatsOf 2 = .ok (.iconst 0, 1) := by decide +kernel
theorem dX0_threatsOf_3 : decode cX0_threatsOf 3 = .ok (.istore_n 3, 1) := by decide +kernel
theorem dX0_threatsOf_4 : decode cX0_threatsOf 4 = .ok (.iload_n 3, 1) := by decide +kernel
theorem dX0_threatsOf_5 : decode cX0_threatsOf 5 = .ok (.aload_n 0, 1) := by decide +kernel
theorem dX0_threatsOf_6 : decode cX0_threatsOf 6 = .ok (.getfield 21, 3) := by decide +kernel
theorem dX0_threatsOf_9 : decode cX0_threatsOf 9 = .ok (.getfield 68, 3) := by decide +kernel
theorem dX0_threatsOf_12 : decode cX0_threatsOf 12 = .ok (.if_icmp .ge 24, 3) := by decide +kernel
theorem dX0_threatsOf_15 : decode cX0_threatsOf 15 = .ok (.aload_n 0, 1) := by decide +kernel
theorem dX0_threatsOf_16 : decode cX0_threatsOf 16 = .ok (.iload_n 1, 1) := by decide +kernel
theorem dX0_threatsOf_17 : decode cX0_threatsOf 17 = .ok (.iload_n 3, 1) := by decide +kernel
theorem dX0_threatsOf_18 : decode cX0_threatsOf 18 = .ok (.invokevirtual 74, 3) := by decide +kernel
theorem dX0_threatsOf_21 : decode cX0_threatsOf 21 = .ok (.ifCond .eq 9, 3) := by decide +kernel
theorem dX0_threatsOf_24 : decode cX0_threatsOf 24 = .ok (.iload_n 2, 1) := by decide +kernel
theorem dX0_threatsOf_25 : decode cX0_threatsOf 25 = .ok (.iconst 1, 1) := by decide +kernel
theorem dX0_threatsOf_26 : decode cX0_threatsOf 26 = .ok (.iload_n 3, 1) := by decide +kernel
theorem dX0_threatsOf_27 : decode cX0_threatsOf 27 = .ok (.ishl, 1) := by decide +kernel
theorem dX0_threatsOf_28 : decode cX0_threatsOf 28 = .ok (.ior, 1) := by decide +kernel
theorem dX0_threatsOf_29 : decode cX0_threatsOf 29 = .ok (.istore_n 2, 1) := by decide +kernel
theorem dX0_threatsOf_30 : decode cX0_threatsOf 30 = .ok (.iinc 3 1, 3) := by decide +kernel
theorem dX0_threatsOf_33 : decode cX0_threatsOf 33 = .ok (.goto (-29), 3) := by decide +kernel
theorem dX0_threatsOf_36 : decode cX0_threatsOf 36 = .ok (.iload_n 2, 1) := by decide +kernel
theorem dX0_threatsOf_37 : decode cX0_threatsOf 37 = .ok (.ireturn, 1) := by decide +kernel
theorem dX0_isThreat_0 : decode cX0_isThreat 0 = .ok (.aload_n 0, 1) := by decide +kernel
theorem dX0_isThreat_1 : decode cX0_isThreat 1 = .ok (.iload_n 2, 1) := by decide +kernel
theorem dX0_isThreat_2 : decode cX0_isThreat 2 = .ok (.invokevirtual 78, 3) := by decide +kernel
theorem dX0_isThreat_5 : decode cX0_isThreat 5 = .ok (.iconst (-1), 1) := by decide +kernel
theorem dX0_isThreat_6 : decode cX0_isThreat 6 = .ok (.if_icmp .ne 27, 3) := by decide +kernel
theorem dX0_isThreat_9 : decode cX0_isThreat 9 = .ok (.aload_n 0, 1) := by decide +kernel
theorem dX0_isThreat_10 : decode cX0_isThreat 10 = .ok (.getfield 21, 3) := by decide +kernel
theorem dX0_isThreat_13 : decode cX0_isThreat 13 = .ok (.aload_n 0, 1) := by decide +kernel
theorem dX0_isThreat_14 : decode cX0_isThreat 14 = .ok (.getfield 15, 3) := by decide +kernel
theorem dX0_isThreat_17 : decode cX0_isThreat 17 = .ok (.iload_n 1, 1) := by decide +kernel
theorem dX0_isThreat_18 : decode cX0_isThreat 18 = .ok (.iaload, 1) := by decide +kernel
theorem dX0_isThreat_19 : decode cX0_isThreat 19 = .ok (.iconst 1, 1) := by decide +kernel
theorem dX0_isThreat_20 : decode cX0_isThreat 20 = .ok (.iload_n 2, 1) := by decide +kernel
theorem dX0_isThreat_21 : decode cX0_isThreat 21 = .ok (.ishl, 1) := by decide +kernel
theorem dX0_isThreat_22 : decode cX0_isThreat 22 = .ok (.ior, 1) := by decide +kernel
theorem dX0_isThreat_23 : decode cX0_isThreat 23 = .ok (.invokevirtual 65, 3) := by decide +kernel
theorem dX0_isThreat_26 : decode cX0_isThreat 26 = .ok (.ifCond .eq 7, 3) := by decide +kernel
theorem dX0_isThreat_29 : decode cX0_isThreat 29 = .ok (.iconst 1, 1) := by decide +kernel
theorem dX0_isThreat_30 : decode cX0_isThreat 30 = .ok (.goto 4, 3) := by decide +kernel
theorem dX0_isThreat_33 : decode cX0_isThreat 33 = .ok (.iconst 0, 1) := by decide +kernel
theorem dX0_isThreat_34 : decode cX0_isThreat 34 = .ok (.ireturn, 1) := by decide +kernel
theorem dX0_waitingColumn_0 : decode cX0_waitingColumn 0 = .ok (.iconst (-1), 1) := by decide +kernel
theorem dX0_waitingColumn_1 : decode cX0_waitingColumn 1 = .ok (.istore_n 1, 1) := by decide +kernel
theorem dX0_waitingColumn_2 : decode cX0_waitingColumn 2 = .ok (.iconst 5, 1) := by decide +kernel
theorem dX0_waitingColumn_3 : decode cX0_waitingColumn 3 = .ok (.istore_n 2, 1) := by decide +kernel
theorem dX0_waitingColumn_4 : decode cX0_waitingColumn 4 = .ok (.iconst 0, 1) := by decide +kernel
theorem dX0_waitingColumn_5 : decode cX0_waitingColumn 5 = .ok (.istore_n 3, 1) := by decide +kernel
theorem dX0_waitingColumn_6 : decode cX0_waitingColumn 6 = .ok (.iload_n 3, 1) := by decide +kernel
theorem dX0_waitingColumn_7 : decode cX0_waitingColumn 7 = .ok (.aload_n 0, 1) := by decide +kernel
theorem dX0_waitingColumn_8 : decode cX0_waitingColumn 8 = .ok (.getfield 21, 3) := by decide +kernel
theorem dX0_waitingColumn_11 : decode cX0_waitingColumn 11 = .ok (.getfield 42, 3) := by decide +kernel
theorem dX0_waitingColumn_14 : decode cX0_waitingColumn 14 = .ok (.if_icmp .ge 35, 3) := by decide +kernel
theorem dX0_waitingColumn_17 : decode cX0_waitingColumn 17 = .ok (.aload_n 0, 1) := by decide +kernel
theorem dX0_waitingColumn_18 : decode cX0_waitingColumn 18 = .ok (.iload_n 3, 1) := by decide +kernel
theorem dX0_waitingColumn_19 : decode cX0_waitingColumn 19 = .ok (.invokevirtual 54, 3) := by decide +kernel
theorem dX0_waitingColumn_22 : decode cX0_waitingColumn 22 = .ok (.ifCond .eq 21, 3) := by decide +kernel
theorem dX0_waitingColumn_25 : decode cX0_waitingColumn 25 = .ok (.aload_n 0, 1) := by decide +kernel
theorem dX0_waitingColumn_26 : decode cX0_waitingColumn 26 = .ok (.iload_n 3, 1) := by decide +kernel
theorem dX0_waitingColumn_27 : decode cX0_waitingColumn 27 = .ok (.invokevirtual 81, 3) := by decide +kernel
theorem dX0_waitingColumn_30 : decode cX0_waitingColumn 30 = .ok (.istore 4, 2) := by decide +kernel
theorem dX0_waitingColumn_32 : decode cX0_waitingColumn 32 = .ok (.iload 4, 2) := by decide +kernel
theorem dX0_waitingColumn_34 : decode cX0_waitingColumn 34 = .ok (.iload_n 2, 1) := by decide +kernel
theorem dX0_waitingColumn_35 : decode cX0_waitingColumn 35 = .ok (.if_icmp .ge 8, 3) := by decide +kernel
theorem dX0_waitingColumn_38 : decode cX0_waitingColumn 38 = .ok (.iload 4, 2) := by decide +kernel
theorem dX0_waitingColumn_40 : decode cX0_waitingColumn 40 = .ok (.istore_n 2, 1) := by decide +kernel
theorem dX0_waitingColumn_41 : decode cX0_waitingColumn 41 = .ok (.iload_n 3, 1) := by decide +kernel
theorem dX0_waitingColumn_42 : decode cX0_waitingColumn 42 = .ok (.istore_n 1, 1) := by decide +kernel
theorem dX0_waitingColumn_43 : decode cX0_waitingColumn 43 = .ok (.iinc 3 1, 3) := by decide +kernel
theorem dX0_waitingColumn_46 : decode cX0_waitingColumn 46 = .ok (.goto (-40), 3) := by decide +kernel
theorem dX0_waitingColumn_49 : decode cX0_waitingColumn 49 = .ok (.iload_n 1, 1) := by decide +kernel
theorem dX0_waitingColumn_50 : decode cX0_waitingColumn 50 = .ok (.ireturn, 1) := by decide +kernel
theorem dX0_waitingSort_0 : decode cX0_waitingSort 0 = .ok (.aload_n 0, 1) := by decide +kernel
theorem dX0_waitingSort_1 : decode cX0_waitingSort 1 = .ok (.invokevirtual 61, 3) := by decide +kernel
theorem dX0_waitingSort_4 : decode cX0_waitingSort 4 = .ok (.istore_n 2, 1) := by decide +kernel
theorem dX0_waitingSort_5 : decode cX0_waitingSort 5 = .ok (.aload_n 0, 1) := by decide +kernel
theorem dX0_waitingSort_6 : decode cX0_waitingSort 6 = .ok (.iload_n 1, 1) := by decide +kernel
theorem dX0_waitingSort_7 : decode cX0_waitingSort 7 = .ok (.invokevirtual 58, 3) := by decide +kernel
theorem dX0_waitingSort_10 : decode cX0_waitingSort 10 = .ok (.istore_n 3, 1) := by decide +kernel
theorem dX0_waitingSort_11 : decode cX0_waitingSort 11 = .ok (.aload_n 0, 1) := by decide +kernel
theorem dX0_waitingSort_12 : decode cX0_waitingSort 12 = .ok (.iload_n 2, 1) := by decide +kernel
theorem dX0_waitingSort_13 : decode cX0_waitingSort 13 = .ok (.iload_n 3, 1) := by decide +kernel
theorem dX0_waitingSort_14 : decode cX0_waitingSort 14 = .ok (.invokevirtual 74, 3) := by decide +kernel
theorem dX0_waitingSort_17 : decode cX0_waitingSort 17 = .ok (.ifCond .eq 5, 3) := by decide +kernel
theorem dX0_waitingSort_20 : decode cX0_waitingSort 20 = .ok (.iconst 0, 1) := by decide +kernel
theorem dX0_waitingSort_21 : decode cX0_waitingSort 21 = .ok (.ireturn, 1) := by decide +kernel
theorem dX0_waitingSort_22 : decode cX0_waitingSort 22 = .ok (.aload_n 0, 1) := by decide +kernel
theorem dX0_waitingSort_23 : decode cX0_waitingSort 23 = .ok (.iconst 1, 1) := by decide +kernel
theorem dX0_waitingSort_24 : decode cX0_waitingSort 24 = .ok (.iload_n 2, 1) := by decide +kernel
theorem dX0_waitingSort_25 : decode cX0_waitingSort 25 = .ok (.isub, 1) := by decide +kernel
theorem dX0_waitingSort_26 : decode cX0_waitingSort 26 = .ok (.iload_n 3, 1) := by decide +kernel
theorem dX0_waitingSort_27 : decode cX0_waitingSort 27 = .ok (.invokevirtual 74, 3) := by decide +kernel
theorem dX0_waitingSort_30 : decode cX0_waitingSort 30 = .ok (.ifCond .eq 5, 3) := by decide +kernel
theorem dX0_waitingSort_33 : decode cX0_waitingSort 33 = .ok (.iconst 1, 1) := by decide +kernel
theorem dX0_waitingSort_34 : decode cX0_waitingSort 34 = .ok (.ireturn, 1) := by decide +kernel
theorem dX0_waitingSort_35 : decode cX0_waitingSort 35 = .ok (.iload_n 3, 1) := by decide +kernel
theorem dX0_waitingSort_36 : decode cX0_waitingSort 36 = .ok (.aload_n 0, 1) := by decide +kernel
theorem dX0_waitingSort_37 : decode cX0_waitingSort 37 = .ok (.getfield 21, 3) := by decide +kernel
theorem dX0_waitingSort_40 : decode cX0_waitingSort 40 = .ok (.getfield 42, 3) := by decide +kernel
theorem dX0_waitingSort_43 : decode cX0_waitingSort 43 = .ok (.iadd, 1) := by decide +kernel
theorem dX0_waitingSort_44 : decode cX0_waitingSort 44 = .ok (.istore 4, 2) := by decide +kernel
theorem dX0_waitingSort_46 : decode cX0_waitingSort 46 = .ok (.iload 4, 2) := by decide +kernel
theorem dX0_waitingSort_48 : decode cX0_waitingSort 48 = .ok (.aload_n 0, 1) := by decide +kernel
theorem dX0_waitingSort_49 : decode cX0_waitingSort 49 = .ok (.getfield 21, 3) := by decide +kernel
theorem dX0_waitingSort_52 : decode cX0_waitingSort 52 = .ok (.getfield 68, 3) := by decide +kernel
theorem dX0_waitingSort_55 : decode cX0_waitingSort 55 = .ok (.if_icmp .lt 5, 3) := by decide +kernel
theorem dX0_waitingSort_58 : decode cX0_waitingSort 58 = .ok (.iconst 2, 1) := by decide +kernel
theorem dX0_waitingSort_59 : decode cX0_waitingSort 59 = .ok (.ireturn, 1) := by decide +kernel
theorem dX0_waitingSort_60 : decode cX0_waitingSort 60 = .ok (.aload_n 0, 1) := by decide +kernel
theorem dX0_waitingSort_61 : decode cX0_waitingSort 61 = .ok (.iconst 1, 1) := by decide +kernel
theorem dX0_waitingSort_62 : decode cX0_waitingSort 62 = .ok (.iload_n 2, 1) := by decide +kernel
theorem dX0_waitingSort_63 : decode cX0_waitingSort 63 = .ok (.isub, 1) := by decide +kernel
theorem dX0_waitingSort_64 : decode cX0_waitingSort 64 = .ok (.iload 4, 2) := by decide +kernel
theorem dX0_waitingSort_66 : decode cX0_waitingSort 66 = .ok (.invokevirtual 74, 3) := by decide +kernel
theorem dX0_waitingSort_69 : decode cX0_waitingSort 69 = .ok (.ifCond .eq 5, 3) := by decide +kernel
theorem dX0_waitingSort_72 : decode cX0_waitingSort 72 = .ok (.iconst 4, 1) := by decide +kernel
theorem dX0_waitingSort_73 : decode cX0_waitingSort 73 = .ok (.ireturn, 1) := by decide +kernel
theorem dX0_waitingSort_74 : decode cX0_waitingSort 74 = .ok (.aload_n 0, 1) := by decide +kernel
theorem dX0_waitingSort_75 : decode cX0_waitingSort 75 = .ok (.iload_n 2, 1) := by decide +kernel
theorem dX0_waitingSort_76 : decode cX0_waitingSort 76 = .ok (.iload 4, 2) := by decide +kernel
theorem dX0_waitingSort_78 : decode cX0_waitingSort 78 = .ok (.invokevirtual 74, 3) := by decide +kernel
theorem dX0_waitingSort_81 : decode cX0_waitingSort 81 = .ok (.ifCond .eq 7, 3) := by decide +kernel
theorem dX0_waitingSort_84 : decode cX0_waitingSort 84 = .ok (.iconst 3, 1) := by decide +kernel
theorem dX0_waitingSort_85 : decode cX0_waitingSort 85 = .ok (.goto 4, 3) := by decide +kernel
theorem dX0_waitingSort_88 : decode cX0_waitingSort 88 = .ok (.iconst 2, 1) := by decide +kernel
theorem dX0_waitingSort_89 : decode cX0_waitingSort 89 = .ok (.ireturn, 1) := by decide +kernel
theorem dX1_init_0 : decode cX1_init 0 = .ok (.aload_n 0, 1) := by decide +kernel
theorem dX1_init_1 : decode cX1_init 1 = .ok (.invokespecial 5, 3) := by decide +kernel
theorem dX1_init_4 : decode cX1_init 4 = .ok (.aload_n 0, 1) := by decide +kernel
theorem dX1_init_5 : decode cX1_init 5 = .ok (.bipush 64, 2) := by decide +kernel
theorem dX1_init_7 : decode cX1_init 7 = .ok (.newarray .int, 2) := by decide +kernel
theorem dX1_init_9 : decode cX1_init 9 = .ok (.putfield 11, 3) := by decide +kernel
theorem dX1_init_12 : decode cX1_init 12 = .ok (.aload_n 0, 1) := by decide +kernel
theorem dX1_init_13 : decode cX1_init 13 = .ok (.sipush 256, 3) := by decide +kernel
theorem dX1_init_16 : decode cX1_init 16 = .ok (.newarray .int, 2) := by decide +kernel
theorem dX1_init_18 : decode cX1_init 18 = .ok (.putfield 15, 3) := by decide +kernel
theorem dX1_init_21 : decode cX1_init 21 = .ok (.aload_n 0, 1) := by decide +kernel
theorem dX1_init_22 : decode cX1_init 22 = .ok (.bipush 16, 2) := by decide +kernel
theorem dX1_init_24 : decode cX1_init 24 = .ok (.newarray .int, 2) := by decide +kernel
theorem dX1_init_26 : decode cX1_init 26 = .ok (.putfield 18, 3) := by decide +kernel
theorem dX1_init_29 : decode cX1_init 29 = .ok (.return_, 1) := by decide +kernel
theorem dX1_tell_0 : decode cX1_tell 0 = .ok (.aload_n 0, 1) := by decide +kernel
theorem dX1_tell_1 : decode cX1_tell 1 = .ok (.iload_n 1, 1) := by decide +kernel
theorem dX1_tell_2 : decode cX1_tell 2 = .ok (.putfield 21, 3) := by decide +kernel
theorem dX1_tell_5 : decode cX1_tell 5 = .ok (.aload_n 0, 1) := by decide +kernel
theorem dX1_tell_6 : decode cX1_tell 6 = .ok (.iload_n 2, 1) := by decide +kernel
theorem dX1_tell_7 : decode cX1_tell 7 = .ok (.putfield 25, 3) := by decide +kernel
theorem dX1_tell_10 : decode cX1_tell 10 = .ok (.aload_n 0, 1) := by decide +kernel
theorem dX1_tell_11 : decode cX1_tell 11 = .ok (.iload_n 3, 1) := by decide +kernel
theorem dX1_tell_12 : decode cX1_tell 12 = .ok (.putfield 28, 3) := by decide +kernel
theorem dX1_tell_15 : decode cX1_tell 15 = .ok (.aload_n 0, 1) := by decide +kernel
theorem dX1_tell_16 : decode cX1_tell 16 = .ok (.iload 4, 2) := by decide +kernel
theorem dX1_tell_18 : decode cX1_tell 18 = .ok (.putfield 31, 3) := by decide +kernel
theorem dX1_tell_21 : decode cX1_tell 21 = .ok (.aload_n 0, 1) := by decide +kernel
theorem dX1_tell_22 : decode cX1_tell 22 = .ok (.iload_n 1, 1) := by decide +kernel
theorem dX1_tell_23 : decode cX1_tell 23 = .ok (.iload_n 2, 1) := by decide +kernel
theorem dX1_tell_24 : decode cX1_tell 24 = .ok (.imul, 1) := by decide +kernel
theorem dX1_tell_25 : decode cX1_tell 25 = .ok (.putfield 35, 3) := by decide +kernel
theorem dX1_tell_28 : decode cX1_tell 28 = .ok (.aload_n 0, 1) := by decide +kernel
theorem dX1_tell_29 : decode cX1_tell 29 = .ok (.iconst 0, 1) := by decide +kernel
theorem dX1_tell_30 : decode cX1_tell 30 = .ok (.putfield 38, 3) := by decide +kernel
theorem dX1_tell_33 : decode cX1_tell 33 = .ok (.aload_n 0, 1) := by decide +kernel
theorem dX1_tell_34 : decode cX1_tell 34 = .ok (.getfield 18, 3) := by decide +kernel
theorem dX1_tell_37 : decode cX1_tell 37 = .ok (.iconst 0, 1) := by decide +kernel
theorem dX1_tell_38 : decode cX1_tell 38 = .ok (.invokestatic 41, 3) := by decide +kernel
theorem dX1_tell_41 : decode cX1_tell 41 = .ok (.iconst 0, 1) := by decide +kernel
theorem dX1_tell_42 : decode cX1_tell 42 = .ok (.istore 5, 2) := by decide +kernel
theorem dX1_tell_44 : decode cX1_tell 44 = .ok (.iload 5, 2) := by decide +kernel
theorem dX1_tell_46 : decode cX1_tell 46 = .ok (.iload_n 2, 1) := by decide +kernel
theorem dX1_tell_47 : decode cX1_tell 47 = .ok (.if_icmp .ge 80, 3) := by decide +kernel
theorem dX1_tell_50 : decode cX1_tell 50 = .ok (.iconst 0, 1) := by decide +kernel
theorem dX1_tell_51 : decode cX1_tell 51 = .ok (.istore 6, 2) := by decide +kernel
theorem dX1_tell_53 : decode cX1_tell 53 = .ok (.iload 6, 2) := by decide +kernel
theorem dX1_tell_55 : decode cX1_tell 55 = .ok (.iload_n 1, 1) := by decide +kernel
theorem dX1_tell_56 : decode cX1_tell 56 = .ok (.if_icmp .ge 65, 3) := by decide +kernel
theorem dX1_tell_59 : decode cX1_tell 59 = .ok (.aload_n 0, 1) := by decide +kernel
theorem dX1_tell_60 : decode cX1_tell 60 = .ok (.aload_n 0, 1) := by decide +kernel
theorem dX1_tell_61 : decode cX1_tell 61 = .ok (.iload 6, 2) := by decide +kernel
theorem dX1_tell_63 : decode cX1_tell 63 = .ok (.iload 5, 2) := by decide +kernel
theorem dX1_tell_65 : decode cX1_tell 65 = .ok (.iconst 1, 1) := by decide +kernel
theorem dX1_tell_66 : decode cX1_tell 66 = .ok (.iconst 0, 1) := by decide +kernel
theorem dX1_tell_67 : decode cX1_tell 67 = .ok (.invokevirtual 47, 3) := by decide +kernel
theorem dX1_tell_70 : decode cX1_tell 70 = .ok (.invokevirtual 51, 3) := by decide +kernel
theorem dX1_tell_73 : decode cX1_tell 73 = .ok (.aload_n 0, 1) := by decide +kernel
theorem dX1_tell_74 : decode cX1_tell 74 = .ok (.aload_n 0, 1) := by decide +kernel
theorem dX1_tell_75 : decode cX1_tell 75 = .ok (.iload 6, 2) := by decide +kernel
theorem dX1_tell_77 : decode cX1_tell 77 = .ok (.iload 5, 2) := by decide +kernel
theorem dX1_tell_79 : decode cX1_tell 79 = .ok (.iconst 0, 1) := by decide +kernel
theorem dX1_tell_80 : decode cX1_tell 80 = .ok (.iconst 1, 1) := by decide +kernel
theorem dX1_tell_81 : decode cX1_tell 81 = .ok (.invokevirtual 47, 3) := by decide +kernel
theorem dX1_tell_84 : decode cX1_tell 84 = .ok (.invokevirtual 51, 3) := by decide +kernel
theorem dX1_tell_87 : decode cX1_tell 87 = .ok (.aload_n 0, 1) := by decide +kernel
theorem dX1_tell_88 : decode cX1_tell 88 = .ok (.aload_n 0, 1) := by decide +kernel
theorem dX1_tell_89 : decode cX1_tell 89 = .ok (.iload 6, 2) := by decide +kernel
theorem dX1_tell_91 : decode cX1_tell 91 = .ok (.iload 5, 2) := by decide +kernel
theorem dX1_tell_93 : decode cX1_tell 93 = .ok (.iconst 1, 1) := by decide +kernel
theorem dX1_tell_94 : decode cX1_tell 94 = .ok (.iconst 1, 1) := by decide +kernel
theorem dX1_tell_95 : decode cX1_tell 95 = .ok (.invokevirtual 47, 3) := by decide +kernel
theorem dX1_tell_98 : decode cX1_tell 98 = .ok (.invokevirtual 51, 3) := by decide +kernel
theorem dX1_tell_101 : decode cX1_tell 101 = .ok (.aload_n 0, 1) := by decide +kernel
theorem dX1_tell_102 : decode cX1_tell 102 = .ok (.aload_n 0, 1) := by decide +kernel
theorem dX1_tell_103 : decode cX1_tell 103 = .ok (.iload 6, 2) := by decide +kernel
theorem dX1_tell_105 : decode cX1_tell 105 = .ok (.iload 5, 2) := by decide +kernel
theorem dX1_tell_107 : decode cX1_tell 107 = .ok (.iconst (-1), 1) := by decide +kernel
theorem dX1_tell_108 : decode cX1_tell 108 = .ok (.iconst 1, 1) := by decide +kernel
theorem dX1_tell_109 : decode cX1_tell 109 = .ok (.invokevirtual 47, 3) := by decide +kernel
theorem dX1_tell_112 : decode cX1_tell 112 = .ok (.invokevirtual 51, 3) := by decide +kernel
theorem dX1_tell_115 : decode cX1_tell 115 = .ok (.iinc 6 1, 3) := by decide +kernel
theorem dX1_tell_118 : decode cX1_tell 118 = .ok (.goto (-65), 3) := by decide +kernel
theorem dX1_tell_121 : decode cX1_tell 121 = .ok (.iinc 5 1, 3) := by decide +kernel
theorem dX1_tell_124 : decode cX1_tell 124 = .ok (.goto (-80), 3) := by decide +kernel
theorem dX1_tell_127 : decode cX1_tell 127 = .ok (.return_, 1) := by decide +kernel
theorem dX1_rowFrom_0 : decode cX1_rowFrom 0 = .ok (.iconst 0, 1) := by decide +kernel
theorem dX1_rowFrom_1 : decode cX1_rowFrom 1 = .ok (.istore 5, 2) := by decide +kernel
theorem dX1_rowFrom_3 : decode cX1_rowFrom 3 = .ok (.iload_n 1, 1) := by decide +kernel
theorem dX1_rowFrom_4 : decode cX1_rowFrom 4 = .ok (.istore 6, 2) := by decide +kernel
theorem dX1_rowFrom_6 : decode cX1_rowFrom 6 = .ok (.iload_n 2, 1) := by decide +kernel
theorem dX1_rowFrom_7 : decode cX1_rowFrom 7 = .ok (.istore 7, 2) := by decide +kernel
theorem dX1_rowFrom_9 : decode cX1_rowFrom 9 = .ok (.iconst 0, 1) := by decide +kernel
theorem dX1_rowFrom_10 : decode cX1_rowFrom 10 = .ok (.istore 8, 2) := by decide +kernel
theorem dX1_rowFrom_12 : decode cX1_rowFrom 12 = .ok (.iload 8, 2) := by decide +kernel
theorem dX1_rowFrom_14 : decode cX1_rowFrom 14 = .ok (.aload_n 0, 1) := by decide +kernel
theorem dX1_rowFrom_15 : decode cX1_rowFrom 15 = .ok (.getfield 28, 3) := by decide +kernel
theorem dX1_rowFrom_18 : decode cX1_rowFrom 18 = .ok (.if_icmp .ge 81, 3) := by decide +kernel
theorem dX1_rowFrom_21 : decode cX1_rowFrom 21 = .ok (.iload 6, 2) := by decide +kernel
theorem dX1_rowFrom_23 : decode cX1_rowFrom 23 = .ok (.ifCond .lt 21, 3) := by decide +kernel
theorem dX1_rowFrom_26 : decode cX1_rowFrom 26 = .ok (.iload 6, 2) := by decide +kernel
theorem dX1_rowFrom_28 : decode cX1_rowFrom 28 = .ok (.aload_n 0, 1) := by decide +kernel
theorem dX1_rowFrom_29 : decode cX1_rowFrom 29 = .ok (.getfield 21, 3) := by decide +kernel
theorem dX1_rowFrom_32 : decode cX1_rowFrom 32 = .ok (.if_icmp .ge 12, 3) := by decide +kernel
theorem dX1_rowFrom_35 : decode cX1_rowFrom 35 = .ok (.iload 7, 2) := by decide +kernel
theorem dX1_rowFrom_37 : decode cX1_rowFrom 37 = .ok (.aload_n 0, 1) := by decide +kernel
theorem dX1_rowFrom_38 : decode cX1_rowFrom 38 = .ok (.getfield 25, 3) := by decide +kernel
theorem dX1_rowFrom_41 : decode cX1_rowFrom 41 = .ok (.if_icmp .lt 5, 3) := by decide +kernel
theorem dX1_rowFrom_44 : decode cX1_rowFrom 44 = .ok (.iconst 0, 1) := by decide +kernel
theorem dX1_rowFrom_45 : decode cX1_rowFrom 45 = .ok (.ireturn, 1) := by decide +kernel
theorem dX1_rowFrom_46 : decode cX1_rowFrom 46 = .ok (.iconst 1, 1) := by decide +kernel
theorem dX1_rowFrom_47 : decode cX1_rowFrom 47 = .ok (.aload_n 0, 1) := by decide +kernel
theorem dX1_rowFrom_48 : decode cX1_rowFrom 48 = .ok (.getfield 21, 3) := by decide +kernel
theorem dX1_rowFrom_51 : decode cX1_rowFrom 51 = .ok (.iload 7, 2) := by decide +kernel
theorem dX1_rowFrom_53 : decode cX1_rowFrom 53 = .ok (.imul, 1) := by decide +kernel
theorem dX1_rowFrom_54 : decode cX1_rowFrom 54 = .ok (.iload 6, 2) := by decide +kernel
theorem dX1_rowFrom_56 : decode cX1_rowFrom 56 = .ok (.iadd, 1) := by decide +kernel
theorem dX1_rowFrom_57 : decode cX1_rowFrom 57 = .ok (.ishl, 1) := by decide +kernel
theorem dX1_rowFrom_58 : decode cX1_rowFrom 58 = .ok (.istore 9, 2) := by decide +kernel
theorem dX1_rowFrom_60 : decode cX1_rowFrom 60 = .ok (.iload 5, 2) := by decide +kernel
theorem dX1_rowFrom_62 : decode cX1_rowFrom 62 = .ok (.iload 9, 2) := by decide +kernel
theorem dX1_rowFrom_64 : decode cX1_rowFrom 64 = .ok (.iand, 1) := by decide +kernel
theorem dX1_rowFrom_65 : decode cX1_rowFrom 65 = .ok (.ifCond .eq 5, 3) := by decide +kernel
theorem dX1_rowFrom_68 : decode cX1_rowFrom 68 = .ok (.iconst 0, 1) := by decide +kernel
theorem dX1_rowFrom_69 : decode cX1_rowFrom 69 = .ok (.ireturn, 1) := by decide +kernel
theorem dX1_rowFrom_70 : decode cX1_rowFrom 70 = .ok (.iload 5, 2) := by decide +kernel
theorem dX1_rowFrom_72 : decode cX1_rowFrom 72 = .ok (.iload 9, 2) := by decide +kernel
theorem dX1_rowFrom_74 : decode cX1_rowFrom 74 = .ok (.ior, 1) := by decide +kernel
theorem dX1_rowFrom_75 : decode cX1_rowFrom 75 = .ok (.istore 5, 2) := by decide +kernel
theorem dX1_rowFrom_77 : decode cX1_rowFrom 77 = .ok (.aload_n 0, 1) := by decide +kernel
theorem dX1_rowFrom_78 : decode cX1_rowFrom 78 = .ok (.iload 6, 2) := by decide +kernel
theorem dX1_rowFrom_80 : decode cX1_rowFrom 80 = .ok (.iload_n 3, 1) := by decide +kernel
theorem dX1_rowFrom_81 : decode cX1_rowFrom 81 = .ok (.invokevirtual 55, 3) := by decide +kernel
theorem dX1_rowFrom_84 : decode cX1_rowFrom 84 = .ok (.istore 6, 2) := by decide +kernel
theorem dX1_rowFrom_86 : decode cX1_rowFrom 86 = .ok (.iload 7, 2) := by decide +kernel
theorem dX1_rowFrom_88 : decode cX1_rowFrom 88 = .ok (.iload 4, 2) := by decide +kernel
theorem dX1_rowFrom_90 : decode cX1_rowFrom 90 = .ok (.iadd, 1) := by decide +kernel
theorem dX1_rowFrom_91 : decode cX1_rowFrom 91 = .ok (.istore 7, 2) := by decide +kernel
theorem dX1_rowFrom_93 : decode cX1_rowFrom 93 = .ok (.iinc 8 1, 3) := by decide +kernel
theorem dX1_rowFrom_96 : decode cX1_rowFrom 96 = .ok (.goto (-84), 3) := by decide +kernel
theorem dX1_rowFrom_99 : decode cX1_rowFrom 99 = .ok (.iload 5, 2) := by decide +kernel
theorem dX1_rowFrom_101 : decode cX1_rowFrom 101 = .ok (.ireturn, 1) := by decide +kernel
theorem dX1_beside_0 : decode cX1_beside 0 = .ok (.iload_n 1, 1) := by decide +kernel
theorem dX1_beside_1 : decode cX1_beside 1 = .ok (.iload_n 2, 1) := by decide +kernel
theorem dX1_beside_2 : decode cX1_beside 2 = .ok (.iadd, 1) := by decide +kernel
theorem dX1_beside_3 : decode cX1_beside 3 = .ok (.istore_n 3, 1) := by decide +kernel
theorem dX1_beside_4 : decode cX1_beside 4 = .ok (.aload_n 0, 1) := by decide +kernel
theorem dX1_beside_5 : decode cX1_beside 5 = .ok (.getfield 31, 3) := by decide +kernel
theorem dX1_beside_8 : decode cX1_beside 8 = .ok (.ifCond .ne 5, 3) := by decide +kernel
theorem dX1_beside_11 : decode cX1_beside 11 = .ok (.iload_n 3, 1) := by decide +kernel
theorem dX1_beside_12 : decode cX1_beside 12 = .ok (.ireturn, 1) := by decide +kernel
theorem dX1_beside_13 : decode cX1_beside 13 = .ok (.iload_n 3, 1) := by decide +kernel
theorem dX1_beside_14 : decode cX1_beside 14 = .ok (.ifCond .ge 10, 3) := by decide +kernel
theorem dX1_beside_17 : decode cX1_beside 17 = .ok (.aload_n 0, 1) := by decide +kernel
theorem dX1_beside_18 : decode cX1_beside 18 = .ok (.getfield 21, 3) := by decide +kernel
theorem dX1_beside_21 : decode cX1_beside 21 = .ok (.iconst 1, 1) := by decide +kernel
theorem dX1_beside_22 : decode cX1_beside 22 = .ok (.isub, 1) := by decide +kernel
theorem dX1_beside_23 : decode cX1_beside 23 = .ok (.ireturn, 1) := by decide +kernel
theorem dX1_beside_24 : decode cX1_beside 24 = .ok (.iload_n 3, 1) := by decide +kernel
theorem dX1_beside_25 : decode cX1_beside 25 = .ok (.aload_n 0, 1) := by decide +kernel
theorem dX1_beside_26 : decode cX1_beside 26 = .ok (.getfield 21, 3) := by decide +kernel
theorem dX1_beside_29 : decode cX1_beside 29 = .ok (.if_icmp .lt 7, 3) := by decide +kernel
theorem dX1_beside_32 : decode cX1_beside 32 = .ok (.iconst 0, 1) := by decide +kernel
theorem dX1_beside_33 : decode cX1_beside 33 = .ok (.goto 4, 3) := by decide +kernel
theorem dX1_beside_36 : decode cX1_beside 36 = .ok (.iload_n 3, 1) := by decide +kernel
theorem dX1_beside_37 : decode cX1_beside 37 = .ok (.ireturn, 1) := by decide +kernel
theorem dX1_addRow_0 : decode cX1_addRow 0 = .ok (.iload_n 1, 1) := by decide +kernel
theorem dX1_addRow_1 : decode cX1_addRow 1 = .ok (.ifCond .eq 23, 3) := by decide +kernel
theorem dX1_addRow_4 : decode cX1_addRow 4 = .ok (.aload_n 0, 1) := by decide +kernel
theorem dX1_addRow_5 : decode cX1_addRow 5 = .ok (.iload_n 1, 1) := by decide +kernel
theorem dX1_addRow_6 : decode cX1_addRow 6 = .ok (.invokevirtual 59, 3) := by decide +kernel
theorem dX1_addRow_9 : decode cX1_addRow 9 = .ok (.ifCond .ne 15, 3) := by decide +kernel
theorem dX1_addRow_12 : decode cX1_addRow 12 = .ok (.aload_n 0, 1) := by decide +kernel
theorem dX1_addRow_13 : decode cX1_addRow 13 = .ok (.getfield 38, 3) := by decide +kernel
theorem dX1_addRow_16 : decode cX1_addRow 16 = .ok (.aload_n 0, 1) := by decide +kernel
theorem dX1_addRow_17 : decode cX1_addRow 17 = .ok (.getfield 11, 3) := by decide +kernel
theorem dX1_addRow_20 : decode cX1_addRow 20 = .ok (.arraylength, 1) := by decide +kernel
theorem dX1_addRow_21 : decode cX1_addRow 21 = .ok (.if_icmp .lt 4, 3) := by decide +kernel
theorem dX1_addRow_24 : decode cX1_addRow 24 = .ok (.return_, 1) := by decide +kernel
theorem dX1_addRow_25 : decode cX1_addRow 25 = .ok (.aload_n 0, 1) := by decide +kernel
theorem dX1_addRow_26 : decode cX1_addRow 26 = .ok (.getfield 11, 3) := by decide +kernel
theorem dX1_addRow_29 : decode cX1_addRow 29 = .ok (.aload_n 0, 1) := by decide +kernel
theorem dX1_addRow_30 : decode cX1_addRow 30 = .ok (.getfield 38, 3) := by decide +kernel
theorem dX1_addRow_33 : decode cX1_addRow 33 = .ok (.iload_n 1, 1) := by decide +kernel
theorem dX1_addRow_34 : decode cX1_addRow 34 = .ok (.iastore, 1) := by decide +kernel
theorem dX1_addRow_35 : decode cX1_addRow 35 = .ok (.aload_n 0, 1) := by decide +kernel
theorem dX1_addRow_36 : decode cX1_addRow 36 = .ok (.dup, 1) := by decide +kernel
theorem dX1_addRow_37 : decode cX1_addRow 37 = .ok (.getfield 38, 3) := by decide +kernel
theorem dX1_addRow_40 : decode cX1_addRow 40 = .ok (.iconst 1, 1) := by decide +kernel
theorem dX1_addRow_41 : decode cX1_addRow 41 = .ok (.iadd, 1) := by decide +kernel
theorem dX1_addRow_42 : decode cX1_addRow 42 = .ok (.putfield 38, 3) := by decide +kernel
theorem dX1_addRow_45 : decode cX1_addRow 45 = .ok (.iconst 0, 1) := by decide +kernel
theorem dX1_addRow_46 : decode cX1_addRow 46 = .ok (.istore_n 2, 1) := by decide +kernel
theorem dX1_addRow_47 : decode cX1_addRow 47 = .ok (.iload_n 2, 1) := by decide +kernel
theorem dX1_addRow_48 : decode cX1_addRow 48 = .ok (.aload_n 0, 1) := by decide +kernel
theorem dX1_addRow_49 : decode cX1_addRow 49 = .ok (.getfield 35, 3) := by decide +kernel
theorem dX1_addRow_52 : decode cX1_addRow 52 = .ok (.if_icmp .ge 55, 3) := by decide +kernel
theorem dX1_addRow_55 : decode cX1_addRow 55 = .ok (.iload_n 1, 1) := by decide +kernel
theorem dX1_addRow_56 : decode cX1_addRow 56 = .ok (.iload_n 2, 1) := by decide +kernel
theorem dX1_addRow_57 : decode cX1_addRow 57 = .ok (.ishr, 1) := by decide +kernel
theorem dX1_addRow_58 : decode cX1_addRow 58 = .ok (.iconst 1, 1) := by decide +kernel
theorem dX1_addRow_59 : decode cX1_addRow 59 = .ok (.iand, 1) := by decide +kernel
theorem dX1_addRow_60 : decode cX1_addRow 60 = .ok (.ifCond .eq 41, 3) := by decide +kernel
theorem dX1_addRow_63 : decode cX1_addRow 63 = .ok (.aload_n 0, 1) := by decide +kernel
theorem dX1_addRow_64 : decode cX1_addRow 64 = .ok (.getfield 18, 3) := by decide +kernel
theorem dX1_addRow_67 : decode cX1_addRow 67 = .ok (.iload_n 2, 1) := by decide +kernel
theorem dX1_addRow_68 : decode cX1_addRow 68 = .ok (.iaload, 1) := by decide +kernel
theorem dX1_addRow_69 : decode cX1_addRow 69 = .ok (.bipush 16, 2) := by decide +kernel
theorem dX1_addRow_71 : decode cX1_addRow 71 = .ok (.if_icmp .ge 30, 3) := by decide +kernel
theorem dX1_addRow_74 : decode cX1_addRow 74 = .ok (.aload_n 0, 1) := by decide +kernel
theorem dX1_addRow_75 : decode cX1_addRow 75 = .ok (.getfield 15, 3) := by decide +kernel
theorem dX1_addRow_78 : decode cX1_addRow 78 = .ok (.iload_n 2, 1) := by decide +kernel
theorem dX1_addRow_79 : decode cX1_addRow 79 = .ok (.bipush 16, 2) := by decide +kernel
theorem dX1_addRow_81 : decode cX1_addRow 81 = .ok (.imul, 1) := by decide +kernel
theorem dX1_addRow_82 : decode cX1_addRow 82 = .ok (.aload_n 0, 1) := by decide +kernel
theorem dX1_addRow_83 : decode cX1_addRow 83 = .ok (.getfield 18, 3) := by decide +kernel
theorem dX1_addRow_86 : decode cX1_addRow 86 = .ok (.iload_n 2, 1) := by decide +kernel
theorem dX1_addRow_87 : decode cX1_addRow 87 = .ok (.iaload, 1) := by decide +kernel
theorem dX1_addRow_88 : decode cX1_addRow 88 = .ok (.iadd, 1) := by decide +kernel
theorem dX1_addRow_89 : decode cX1_addRow 89 = .ok (.iload_n 1, 1) := by decide +kernel
theorem dX1_addRow_90 : decode cX1_addRow 90 = .ok (.iastore, 1) := by decide +kernel
theorem dX1_addRow_91 : decode cX1_addRow 91 = .ok (.aload_n 0, 1) := by decide +kernel
theorem dX1_addRow_92 : decode cX1_addRow 92 = .ok (.getfield 18, 3) := by decide +kernel
theorem dX1_addRow_95 : decode cX1_addRow 95 = .ok (.iload_n 2, 1) := by decide +kernel
theorem dX1_addRow_96 : decode cX1_addRow 96 = .ok (.dup2, 1) := by decide +kernel
theorem dX1_addRow_97 : decode cX1_addRow 97 = .ok (.iaload, 1) := by decide +kernel
theorem dX1_addRow_98 : decode cX1_addRow 98 = .ok (.iconst 1, 1) := by decide +kernel
theorem dX1_addRow_99 : decode cX1_addRow 99 = .ok (.iadd, 1) := by decide +kernel
theorem dX1_addRow_100 : decode cX1_addRow 100 = .ok (.iastore, 1) := by decide +kernel
theorem dX1_addRow_101 : decode cX1_addRow 101 = .ok (.iinc 2 1, 3) := by decide +kernel
theorem dX1_addRow_104 : decode cX1_addRow 104 = .ok (.goto (-57), 3) := by decide +kernel
theorem dX1_addRow_107 : decode cX1_addRow 107 = .ok (.return_, 1) := by decide +kernel
theorem dX1_isRow_0 : decode cX1_isRow 0 = .ok (.iconst 0, 1) := by decide +kernel
theorem dX1_isRow_1 : decode cX1_isRow 1 = .ok (.istore_n 2, 1) := by decide +kernel
theorem dX1_isRow_2 : decode cX1_isRow 2 = .ok (.iload_n 2, 1) := by decide +kernel
theorem dX1_isRow_3 : decode cX1_isRow 3 = .ok (.aload_n 0, 1) := by decide +kernel
theorem dX1_isRow_4 : decode cX1_isRow 4 = .ok (.getfield 38, 3) := by decide +kernel
theorem dX1_isRow_7 : decode cX1_isRow 7 = .ok (.if_icmp .ge 21, 3) := by decide +kernel
theorem dX1_isRow_10 : decode cX1_isRow 10 = .ok (.aload_n 0, 1) := by decide +kernel
theorem dX1_isRow_11 : decode cX1_isRow 11 = .ok (.getfield 11, 3) := by decide +kernel
theorem dX1_isRow_14 : decode cX1_isRow 14 = .ok (.iload_n 2, 1) := by decide +kernel
theorem dX1_isRow_15 : decode cX1_isRow 15 = .ok (.iaload, 1) := by decide +kernel
theorem dX1_isRow_16 : decode cX1_isRow 16 = .ok (.iload_n 1, 1) := by decide +kernel
theorem dX1_isRow_17 : decode cX1_isRow 17 = .ok (.if_icmp .ne 5, 3) := by decide +kernel
theorem dX1_isRow_20 : decode cX1_isRow 20 = .ok (.iconst 1, 1) := by decide +kernel
theorem dX1_isRow_21 : decode cX1_isRow 21 = .ok (.ireturn, 1) := by decide +kernel
theorem dX1_isRow_22 : decode cX1_isRow 22 = .ok (.iinc 2 1, 3) := by decide +kernel
theorem dX1_isRow_25 : decode cX1_isRow 25 = .ok (.goto (-23), 3) := by decide +kernel
theorem dX1_isRow_28 : decode cX1_isRow 28 = .ok (.iconst 0, 1) := by decide +kernel
theorem dX1_isRow_29 : decode cX1_isRow 29 = .ok (.ireturn, 1) := by decide +kernel
theorem dX1_hasRow_0 : decode cX1_hasRow 0 = .ok (.iconst 0, 1) := by decide +kernel
theorem dX1_hasRow_1 : decode cX1_hasRow 1 = .ok (.istore_n 2, 1) := by decide +kernel
theorem dX1_hasRow_2 : decode cX1_hasRow 2 = .ok (.iload_n 2, 1) := by decide +kernel
theorem dX1_hasRow_3 : decode cX1_hasRow 3 = .ok (.aload_n 0, 1) := by decide +kernel
theorem dX1_hasRow_4 : decode cX1_hasRow 4 = .ok (.getfield 38, 3) := by decide +kernel
theorem dX1_hasRow_7 : decode cX1_hasRow 7 = .ok (.if_icmp .ge 28, 3) := by decide +kernel
theorem dX1_hasRow_10 : decode cX1_hasRow 10 = .ok (.iload_n 1, 1) := by decide +kernel
theorem dX1_hasRow_11 : decode cX1_hasRow 11 = .ok (.aload_n 0, 1) := by decide +kernel
theorem dX1_hasRow_12 : decode cX1_hasRow 12 = .ok (.getfield 11, 3) := by decide +kernel
theorem dX1_hasRow_15 : decode cX1_hasRow 15 = .ok (.iload_n 2, 1) := by decide +kernel
theorem dX1_hasRow_16 : decode cX1_hasRow 16 = .ok (.iaload, 1) := by decide +kernel
theorem dX1_hasRow_17 : decode cX1_hasRow 17 = .ok (.iand, 1) := by decide +kernel
theorem dX1_hasRow_18 : decode cX1_hasRow 18 = .ok (.aload_n 0, 1) := by decide +kernel
theorem dX1_hasRow_19 : decode cX1_hasRow 19 = .ok (.getfield 11, 3) := by decide +kernel
theorem dX1_hasRow_22 : decode cX1_hasRow 22 = .ok (.iload_n 2, 1) := by decide +kernel
theorem dX1_hasRow_23 : decode cX1_hasRow 23 = .ok (.iaload, 1) := by decide +kernel
theorem dX1_hasRow_24 : decode cX1_hasRow 24 = .ok (.if_icmp .ne 5, 3) := by decide +kernel
theorem dX1_hasRow_27 : decode cX1_hasRow 27 = .ok (.iconst 1, 1) := by decide +kernel
theorem dX1_hasRow_28 : decode cX1_hasRow 28 = .ok (.ireturn, 1) := by decide +kernel
theorem dX1_hasRow_29 : decode cX1_hasRow 29 = .ok (.iinc 2 1, 3) := by decide +kernel
theorem dX1_hasRow_32 : decode cX1_hasRow 32 = .ok (.goto (-30), 3) := by decide +kernel
theorem dX1_hasRow_35 : decode cX1_hasRow 35 = .ok (.iconst 0, 1) := by decide +kernel
theorem dX1_hasRow_36 : decode cX1_hasRow 36 = .ok (.ireturn, 1) := by decide +kernel
theorem dX1_hasRowThrough_0 : decode cX1_hasRowThrough 0 = .ok (.iload_n 1, 1) := by decide +kernel
theorem dX1_hasRowThrough_1 : decode cX1_hasRowThrough 1 = .ok (.ifCond .lt 9, 3) := by decide +kernel
theorem dX1_hasRowThrough_4 : decode cX1_hasRowThrough 4 = .ok (.iload_n 1, 1) := by decide +kernel
theorem dX1_hasRowThrough_5 : decode cX1_hasRowThrough 5 = .ok (.bipush 16, 2) := by decide +kernel
theorem dX1_hasRowThrough_7 : decode cX1_hasRowThrough 7 = .ok (.if_icmp .lt 5, 3) := by decide +kernel
theorem dX1_hasRowThrough_10 : decode cX1_hasRowThrough 10 = .ok (.iconst 0, 1) := by decide +kernel
theorem dX1_hasRowThrough_11 : decode cX1_hasRowThrough 11 = .ok (.ireturn, 1) := by decide +kernel
theorem dX1_hasRowThrough_12 : decode cX1_hasRowThrough 12 = .ok (.iload_n 1, 1) := by decide +kernel
theorem dX1_hasRowThrough_13 : decode cX1_hasRowThrough 13 = .ok (.bipush 16, 2) := by decide +kernel
theorem dX1_hasRowThrough_15 : decode cX1_hasRowThrough 15 = .ok (.imul, 1) := by decide +kernel
theorem dX1_hasRowThrough_16 : decode cX1_hasRowThrough 16 = .ok (.istore_n 3, 1) := by decide +kernel
theorem dX1_hasRowThrough_17 : decode cX1_hasRowThrough 17 = .ok (.iload_n 3, 1) := by decide +kernel
theorem dX1_hasRowThrough_18 : decode cX1_hasRowThrough 18 = .ok (.aload_n 0, 1) := by decide +kernel
theorem dX1_hasRowThrough_19 : decode cX1_hasRowThrough 19 = .ok (.getfield 18, 3) := by decide +kernel
theorem dX1_hasRowThrough_22 : decode cX1_hasRowThrough 22 = .ok (.iload_n 1, 1) := by decide +kernel
theorem dX1_hasRowThrough_23 : decode cX1_hasRowThrough 23 = .ok (.iaload, 1) := by decide +kernel
theorem dX1_hasRowThrough_24 : decode cX1_hasRowThrough 24 = .ok (.iadd, 1) := by decide +kernel
theorem dX1_hasRowThrough_25 : decode cX1_hasRowThrough 25 = .ok (.istore 4, 2) := by decide +kernel
theorem dX1_hasRowThrough_27 : decode cX1_hasRowThrough 27 = .ok (.iload_n 3, 1) := by decide +kernel
theorem dX1_hasRowThrough_28 : decode cX1_hasRowThrough 28 = .ok (.istore 5, 2) := by decide +kernel
theorem dX1_hasRowThrough_30 : decode cX1_hasRowThrough 30 = .ok (.iload 5, 2) := by decide +kernel
theorem dX1_hasRowThrough_32 : decode cX1_hasRowThrough 32 = .ok (.iload 4, 2) := by decide +kernel
theorem dX1_hasRowThrough_34 : decode cX1_hasRowThrough 34 = .ok (.if_icmp .ge 29, 3) := by decide +kernel
theorem dX1_hasRowThrough_37 : decode cX1_hasRowThrough 37 = .ok (.aload_n 0, 1) := by decide +kernel
theorem dX1_hasRowThrough_38 : decode cX1_hasRowThrough 38 = .ok (.getfield 15, 3) := by decide +kernel
theorem dX1_hasRowThrough_41 : decode cX1_hasRowThrough 41 = .ok (.iload 5, 2) := by decide +kernel
theorem dX1_hasRowThrough_43 : decode cX1_hasRowThrough 43 = .ok (.iaload, 1) := by decide +kernel
theorem dX1_hasRowThrough_44 : decode cX1_hasRowThrough 44 = .ok (.istore 6, 2) := by decide +kernel
theorem dX1_hasRowThrough_46 : decode cX1_hasRowThrough 46 = .ok (.iload_n 2, 1) := by decide +kernel
theorem dX1_hasRowThrough_47 : decode cX1_hasRowThrough 47 = .ok (.iload 6, 2) := by decide +kernel
theorem dX1_hasRowThrough_49 : decode cX1_hasRowThrough 49 = .ok (.iand, 1) := by decide +kernel
theorem dX1_hasRowThrough_50 : decode cX1_hasRowThrough 50 = .ok (.iload 6, 2) := by decide +kernel
theorem dX1_hasRowThrough_52 : decode cX1_hasRowThrough 52 = .ok (.if_icmp .ne 5, 3) := by decide +kernel
theorem dX1_hasRowThrough_55 : decode cX1_hasRowThrough 55 = .ok (.iconst 1, 1) := by decide +kernel
theorem dX1_hasRowThrough_56 : decode cX1_hasRowThrough 56 = .ok (.ireturn, 1) := by decide +kernel
theorem dX1_hasRowThrough_57 : decode cX1_hasRowThrough 57 = .ok (.iinc 5 1, 3) := by decide +kernel
theorem dX1_hasRowThrough_60 : decode cX1_hasRowThrough 60 = .ok (.goto (-30), 3) := by decide +kernel
theorem dX1_hasRowThrough_63 : decode cX1_hasRowThrough 63 = .ok (.iconst 0, 1) := by decide +kernel
theorem dX1_hasRowThrough_64 : decode cX1_hasRowThrough 64 = .ok (.ireturn, 1) := by decide +kernel
theorem dX1_rowsWithout_0 : decode cX1_rowsWithout 0 = .ok (.iconst 0, 1) := by decide +kernel
theorem dX1_rowsWithout_1 : decode cX1_rowsWithout 1 = .ok (.istore_n 2, 1) := by decide +kernel
theorem dX1_rowsWithout_2 : decode cX1_rowsWithout 2 = .ok (.iconst 0, 1) := by decide +kernel
theorem dX1_rowsWithout_3 : decode cX1_rowsWithout 3 = .ok (.istore_n 3, 1) := by decide +kernel
theorem dX1_rowsWithout_4 : decode cX1_rowsWithout 4 = .ok (.iload_n 3, 1) := by decide +kernel
theorem dX1_rowsWithout_5 : decode cX1_rowsWithout 5 = .ok (.aload_n 0, 1) := by decide +kernel
theorem dX1_rowsWithout_6 : decode cX1_rowsWithout 6 = .ok (.getfield 38, 3) := by decide +kernel
theorem dX1_rowsWithout_9 : decode cX1_rowsWithout 9 = .ok (.if_icmp .ge 23, 3) := by decide +kernel
theorem dX1_rowsWithout_12 : decode cX1_rowsWithout 12 = .ok (.iload_n 1, 1) := by decide +kernel
theorem dX1_rowsWithout_13 : decode cX1_rowsWithout 13 = .ok (.aload_n 0, 1) := by decide +kernel
theorem dX1_rowsWithout_14 : decode cX1_rowsWithout 14 = .ok (.getfield 11, 3) := by decide +kernel
theorem dX1_rowsWithout_17 : decode cX1_rowsWithout 17 = .ok (.iload_n 3, 1) := by decide +kernel
theorem dX1_rowsWithout_18 : decode cX1_rowsWithout 18 = .ok (.iaload, 1) := by decide +kernel
theorem dX1_rowsWithout_19 : decode cX1_rowsWithout 19 = .ok (.iand, 1) := by decide +kernel
theorem dX1_rowsWithout_20 : decode cX1_rowsWithout 20 = .ok (.ifCond .ne 6, 3) := by decide +kernel
theorem dX1_rowsWithout_23 : decode cX1_rowsWithout 23 = .ok (.iinc 2 1, 3) := by decide +kernel
theorem dX1_rowsWithout_26 : decode cX1_rowsWithout 26 = .ok (.iinc 3 1, 3) := by decide +kernel
theorem dX1_rowsWithout_29 : decode cX1_rowsWithout 29 = .ok (.goto (-25), 3) := by decide +kernel
theorem dX1_rowsWithout_32 : decode cX1_rowsWithout 32 = .ok (.iload_n 2, 1) := by decide +kernel
theorem dX1_rowsWithout_33 : decode cX1_rowsWithout 33 = .ok (.ireturn, 1) := by decide +kernel
theorem dX1_firstRowOf_0 : decode cX1_firstRowOf 0 = .ok (.iconst 0, 1) := by decide +kernel
theorem dX1_firstRowOf_1 : decode cX1_firstRowOf 1 = .ok (.istore_n 2, 1) := by decide +kernel
theorem dX1_firstRowOf_2 : decode cX1_firstRowOf 2 = .ok (.iconst 0, 1) := by decide +kernel
theorem dX1_firstRowOf_3 : decode cX1_firstRowOf 3 = .ok (.istore_n 3, 1) := by decide +kernel
theorem dX1_firstRowOf_4 : decode cX1_firstRowOf 4 = .ok (.iload_n 3, 1) := by decide +kernel
theorem dX1_firstRowOf_5 : decode cX1_firstRowOf 5 = .ok (.aload_n 0, 1) := by decide +kernel
theorem dX1_firstRowOf_6 : decode cX1_firstRowOf 6 = .ok (.getfield 38, 3) := by decide +kernel
theorem dX1_firstRowOf_9 : decode cX1_firstRowOf 9 = .ok (.if_icmp .ge 50, 3) := by decide +kernel
theorem dX1_firstRowOf_12 : decode cX1_firstRowOf 12 = .ok (.iload_n 1, 1) := by decide +kernel
theorem dX1_firstRowOf_13 : decode cX1_firstRowOf 13 = .ok (.aload_n 0, 1) := by decide +kernel
theorem dX1_firstRowOf_14 : decode cX1_firstRowOf 14 = .ok (.getfield 11, 3) := by decide +kernel
theorem dX1_firstRowOf_17 : decode cX1_firstRowOf 17 = .ok (.iload_n 3, 1) := by decide +kernel
theorem dX1_firstRowOf_18 : decode cX1_firstRowOf 18 = .ok (.iaload, 1) := by decide +kernel
theorem dX1_firstRowOf_19 : decode cX1_firstRowOf 19 = .ok (.iand, 1) := by decide +kernel
theorem dX1_firstRowOf_20 : decode cX1_firstRowOf 20 = .ok (.aload_n 0, 1) := by decide +kernel
theorem dX1_firstRowOf_21 : decode cX1_firstRowOf 21 = .ok (.getfield 11, 3) := by decide +kernel
theorem dX1_firstRowOf_24 : decode cX1_firstRowOf 24 = .ok (.iload_n 3, 1) := by decide +kernel
theorem dX1_firstRowOf_25 : decode cX1_firstRowOf 25 = .ok (.iaload, 1) := by decide +kernel
theorem dX1_firstRowOf_26 : decode cX1_firstRowOf 26 = .ok (.if_icmp .ne 27, 3) := by decide +kernel
theorem dX1_firstRowOf_29 : decode cX1_firstRowOf 29 = .ok (.iload_n 2, 1) := by decide +kernel
theorem dX1_firstRowOf_30 : decode cX1_firstRowOf 30 = .ok (.ifCond .eq 16, 3) := by decide +kernel
theorem dX1_firstRowOf_33 : decode cX1_firstRowOf 33 = .ok (.aload_n 0, 1) := by decide +kernel
theorem dX1_firstRowOf_34 : decode cX1_firstRowOf 34 = .ok (.getfield 11, 3) := by decide +kernel
theorem dX1_firstRowOf_37 : decode cX1_firstRowOf 37 = .ok (.iload_n 3, 1) := by decide +kernel
theorem dX1_firstRowOf_38 : decode cX1_firstRowOf 38 = .ok (.iaload, 1) := by decide +kernel
theorem dX1_firstRowOf_39 : decode cX1_firstRowOf 39 = .ok (.iload_n 2, 1) := by decide +kernel
theorem dX1_firstRowOf_40 : decode cX1_firstRowOf 40 = .ok (.invokestatic 63, 3) := by decide +kernel
theorem dX1_firstRowOf_43 : decode cX1_firstRowOf 43 = .ok (.ifCond .eq 10, 3) := by decide +kernel
theorem dX1_firstRowOf_46 : decode cX1_firstRowOf 46 = .ok (.aload_n 0, 1) := by decide +kernel
theorem dX1_firstRowOf_47 : decode cX1_firstRowOf 47 = .ok (.getfield 11, 3) := by decide +kernel
theorem dX1_firstRowOf_50 : decode cX1_firstRowOf 50 = .ok (.iload_n 3, 1) := by decide +kernel
theorem dX1_firstRowOf_51 : decode cX1_firstRowOf 51 = .ok (.iaload, 1) := by decide +kernel
theorem dX1_firstRowOf_52 : decode cX1_firstRowOf 52 = .ok (.istore_n 2, 1) := by decide +kernel
theorem dX1_firstRowOf_53 : decode cX1_firstRowOf 53 = .ok (.iinc 3 1, 3) := by decide +kernel
theorem dX1_firstRowOf_56 : decode cX1_firstRowOf 56 = .ok (.goto (-52), 3) := by decide +kernel
theorem dX1_firstRowOf_59 : decode cX1_firstRowOf 59 = .ok (.iload_n 2, 1) := by decide +kernel
theorem dX1_firstRowOf_60 : decode cX1_firstRowOf 60 = .ok (.ireturn, 1) := by decide +kernel
theorem dX1_comesAhead_0 : decode cX1_comesAhead 0 = .ok (.iload_n 0, 1) := by decide +kernel
theorem dX1_comesAhead_1 : decode cX1_comesAhead 1 = .ok (.iload_n 1, 1) := by decide +kernel
theorem dX1_comesAhead_2 : decode cX1_comesAhead 2 = .ok (.ixor, 1) := by decide +kernel
theorem dX1_comesAhead_3 : decode cX1_comesAhead 3 = .ok (.istore_n 2, 1) := by decide +kernel
theorem dX1_comesAhead_4 : decode cX1_comesAhead 4 = .ok (.iload_n 0, 1) := by decide +kernel
theorem dX1_comesAhead_5 : decode cX1_comesAhead 5 = .ok (.iload_n 2, 1) := by decide +kernel
theorem dX1_comesAhead_6 : decode cX1_comesAhead 6 = .ok (.iand, 1) := by decide +kernel
theorem dX1_comesAhead_7 : decode cX1_comesAhead 7 = .ok (.iload_n 2, 1) := by decide +kernel
theorem dX1_comesAhead_8 : decode cX1_comesAhead 8 = .ok (.ineg, 1) := by decide +kernel
theorem dX1_comesAhead_9 : decode cX1_comesAhead 9 = .ok (.iand, 1) := by decide +kernel
theorem dX1_comesAhead_10 : decode cX1_comesAhead 10 = .ok (.ifCond .eq 7, 3) := by decide +kernel
theorem dX1_comesAhead_13 : decode cX1_comesAhead 13 = .ok (.iconst 1, 1) := by decide +kernel
theorem dX1_comesAhead_14 : decode cX1_comesAhead 14 = .ok (.goto 4, 3) := by decide +kernel
theorem dX1_comesAhead_17 : decode cX1_comesAhead 17 = .ok (.iconst 0, 1) := by decide +kernel
theorem dX1_comesAhead_18 : decode cX1_comesAhead 18 = .ok (.ireturn, 1) := by decide +kernel
theorem dX1_imageOf_0 : decode cX1_imageOf 0 = .ok (.aload_n 0, 1) := by decide +kernel
theorem dX1_imageOf_1 : decode cX1_imageOf 1 = .ok (.getfield 21, 3) := by decide +kernel
theorem dX1_imageOf_4 : decode cX1_imageOf 4 = .ok (.iconst 1, 1) := by decide +kernel
theorem dX1_imageOf_5 : decode cX1_imageOf 5 = .ok (.if_icmp .ge 7, 3) := by decide +kernel
theorem dX1_imageOf_8 : decode cX1_imageOf 8 = .ok (.iconst 0, 1) := by decide +kernel
theorem dX1_imageOf_9 : decode cX1_imageOf 9 = .ok (.goto 9, 3) := by decide +kernel
theorem dX1_imageOf_12 : decode cX1_imageOf 12 = .ok (.iload_n 1, 1) := by decide +kernel
theorem dX1_imageOf_13 : decode cX1_imageOf 13 = .ok (.aload_n 0, 1) := by decide +kernel
theorem dX1_imageOf_14 : decode cX1_imageOf 14 = .ok (.getfield 21, 3) := by decide +kernel
theorem dX1_imageOf_17 : decode cX1_imageOf 17 = .ok (.irem, 1) := by decide +kernel
theorem dX1_imageOf_18 : decode cX1_imageOf 18 = .ok (.istore_n 2, 1) := by decide +kernel
theorem dX1_imageOf_19 : decode cX1_imageOf 19 = .ok (.iload_n 1, 1) := by decide +kernel
theorem dX1_imageOf_20 : decode cX1_imageOf 20 = .ok (.iload_n 2, 1) := by decide +kernel
theorem dX1_imageOf_21 : decode cX1_imageOf 21 = .ok (.isub, 1) := by decide +kernel
theorem dX1_imageOf_22 : decode cX1_imageOf 22 = .ok (.aload_n 0, 1) := by decide +kernel
theorem dX1_imageOf_23 : decode cX1_imageOf 23 = .ok (.getfield 21, 3) := by decide +kernel
theorem dX1_imageOf_26 : decode cX1_imageOf 26 = .ok (.iconst 1, 1) := by decide +kernel
theorem dX1_imageOf_27 : decode cX1_imageOf 27 = .ok (.isub, 1) := by decide +kernel
theorem dX1_imageOf_28 : decode cX1_imageOf 28 = .ok (.iload_n 2, 1) := by decide +kernel
theorem dX1_imageOf_29 : decode cX1_imageOf 29 = .ok (.isub, 1) := by decide +kernel
theorem dX1_imageOf_30 : decode cX1_imageOf 30 = .ok (.iadd, 1) := by decide +kernel
theorem dX1_imageOf_31 : decode cX1_imageOf 31 = .ok (.ireturn, 1) := by decide +kernel
theorem dX2_init_0 : decode cX2_init 0 = .ok (.aload_n 0, 1) := by decide +kernel
theorem dX2_init_1 : decode cX2_init 1 = .ok (.invokespecial 3, 3) := by decide +kernel
theorem dX2_init_4 : decode cX2_init 4 = .ok (.aload_n 0, 1) := by decide +kernel
theorem dX2_init_5 : decode cX2_init 5 = .ok (.iconst 1, 1) := by decide +kernel
theorem dX2_init_6 : decode cX2_init 6 = .ok (.putfield 9, 3) := by decide +kernel
theorem dX2_init_9 : decode cX2_init 9 = .ok (.aload_n 0, 1) := by decide +kernel
theorem dX2_init_10 : decode cX2_init 10 = .ok (.bipush 20, 2) := by decide +kernel
theorem dX2_init_12 : decode cX2_init 12 = .ok (.newarray .int, 2) := by decide +kernel
theorem dX2_init_14 : decode cX2_init 14 = .ok (.putfield 15, 3) := by decide +kernel
theorem dX2_init_17 : decode cX2_init 17 = .ok (.return_, 1) := by decide +kernel
theorem dX2_renew_0 : decode cX2_renew 0 = .ok (.aload_n 0, 1) := by decide +kernel
theorem dX2_renew_1 : decode cX2_renew 1 = .ok (.iconst 0, 1) := by decide +kernel
theorem dX2_renew_2 : decode cX2_renew 2 = .ok (.putfield 9, 3) := by decide +kernel
theorem dX2_renew_5 : decode cX2_renew 5 = .ok (.aload_n 0, 1) := by decide +kernel
theorem dX2_renew_6 : decode cX2_renew 6 = .ok (.iload_n 1, 1) := by decide +kernel
theorem dX2_renew_7 : decode cX2_renew 7 = .ok (.putfield 19, 3) := by decide +kernel
theorem dX2_renew_10 : decode cX2_renew 10 = .ok (.aload_n 0, 1) := by decide +kernel
theorem dX2_renew_11 : decode cX2_renew 11 = .ok (.iload_n 2, 1) := by decide +kernel
theorem dX2_renew_12 : decode cX2_renew 12 = .ok (.putfield 23, 3) := by decide +kernel
theorem dX2_renew_15 : decode cX2_renew 15 = .ok (.aload_n 0, 1) := by decide +kernel
theorem dX2_renew_16 : decode cX2_renew 16 = .ok (.getfield 15, 3) := by decide +kernel
theorem dX2_renew_19 : decode cX2_renew 19 = .ok (.iconst 0, 1) := by decide +kernel
theorem dX2_renew_20 : decode cX2_renew 20 = .ok (.invokestatic 26, 3) := by decide +kernel
theorem dX2_renew_23 : decode cX2_renew 23 = .ok (.return_, 1) := by decide +kernel
theorem dX2_findingAt_0 : decode cX2_findingAt 0 = .ok (.aload_n 0, 1) := by decide +kernel
theorem dX2_findingAt_1 : decode cX2_findingAt 1 = .ok (.getfield 9, 3) := by decide +kernel
theorem dX2_findingAt_4 : decode cX2_findingAt 4 = .ok (.ifCond .eq 5, 3) := by decide +kernel
theorem dX2_findingAt_7 : decode cX2_findingAt 7 = .ok (.iconst 1, 1) := by decide +kernel
theorem dX2_findingAt_8 : decode cX2_findingAt 8 = .ok (.ireturn, 1) := by decide +kernel
theorem dX2_findingAt_9 : decode cX2_findingAt 9 = .ok (.aload_n 0, 1) := by decide +kernel
theorem dX2_findingAt_10 : decode cX2_findingAt 10 = .ok (.getfield 19, 3) := by decide +kernel
theorem dX2_findingAt_13 : decode cX2_findingAt 13 = .ok (.iload_n 1, 1) := by decide +kernel
theorem dX2_findingAt_14 : decode cX2_findingAt 14 = .ok (.if_icmp .eq 5, 3) := by decide +kernel
theorem dX2_findingAt_17 : decode cX2_findingAt 17 = .ok (.iconst 3, 1) := by decide +kernel
theorem dX2_findingAt_18 : decode cX2_findingAt 18 = .ok (.ireturn, 1) := by decide +kernel
theorem dX2_findingAt_19 : decode cX2_findingAt 19 = .ok (.iload_n 2, 1) := by decide +kernel
theorem dX2_findingAt_20 : decode cX2_findingAt 20 = .ok (.iconst 0, 1) := by decide +kernel
theorem dX2_findingAt_21 : decode cX2_findingAt 21 = .ok (.aload_n 0, 1) := by decide +kernel
theorem dX2_findingAt_22 : decode cX2_findingAt 22 = .ok (.getfield 23, 3) := by decide +kernel
theorem dX2_findingAt_25 : decode cX2_findingAt 25 = .ok (.iconst 1, 1) := by decide +kernel
theorem dX2_findingAt_26 : decode cX2_findingAt 26 = .ok (.isub, 1) := by decide +kernel
theorem dX2_findingAt_27 : decode cX2_findingAt 27 = .ok (.invokestatic 32, 3) := by decide +kernel
theorem dX2_findingAt_30 : decode cX2_findingAt 30 = .ok (.ifCond .eq 7, 3) := by decide +kernel
theorem dX2_findingAt_33 : decode cX2_findingAt 33 = .ok (.iconst 0, 1) := by decide +kernel
theorem dX2_findingAt_34 : decode cX2_findingAt 34 = .ok (.goto 4, 3) := by decide +kernel
theorem dX2_findingAt_37 : decode cX2_findingAt 37 = .ok (.iconst 2, 1) := by decide +kernel
theorem dX2_findingAt_38 : decode cX2_findingAt 38 = .ok (.ireturn, 1) := by decide +kernel
theorem dX2_hasPart_0 : decode cX2_hasPart 0 = .ok (.iload_n 2, 1) := by decide +kernel
theorem dX2_hasPart_1 : decode cX2_hasPart 1 = .ok (.ifCond .lt 29, 3) := by decide +kernel
theorem dX2_hasPart_4 : decode cX2_hasPart 4 = .ok (.iload_n 2, 1) := by decide +kernel
theorem dX2_hasPart_5 : decode cX2_hasPart 5 = .ok (.aload_n 0, 1) := by decide +kernel
theorem dX2_hasPart_6 : decode cX2_hasPart 6 = .ok (.getfield 23, 3) := by decide +kernel
theorem dX2_hasPart_9 : decode cX2_hasPart 9 = .ok (.if_icmp .gt 21, 3) := by decide +kernel
theorem dX2_hasPart_12 : decode cX2_hasPart 12 = .ok (.iload_n 1, 1) := by decide +kernel
theorem dX2_hasPart_13 : decode cX2_hasPart 13 = .ok (.ifCond .lt 17, 3) := by decide +kernel
theorem dX2_hasPart_16 : decode cX2_hasPart 16 = .ok (.iload_n 1, 1) := by decide +kernel
theorem dX2_hasPart_17 : decode cX2_hasPart 17 = .ok (.aload_n 0, 1) := by decide +kernel
theorem dX2_hasPart_18 : decode cX2_hasPart 18 = .ok (.getfield 23, 3) := by decide +kernel
theorem dX2_hasPart_21 : decode cX2_hasPart 21 = .ok (.iload_n 2, 1) := by decide +kernel
theorem dX2_hasPart_22 : decode cX2_hasPart 22 = .ok (.isub, 1) := by decide +kernel
theorem dX2_hasPart_23 : decode cX2_hasPart 23 = .ok (.if_icmp .gt 7, 3) := by decide +kernel
theorem dX2_hasPart_26 : decode cX2_hasPart 26 = .ok (.iconst 1, 1) := by decide +kernel
theorem dX2_hasPart_27 : decode cX2_hasPart 27 = .ok (.goto 4, 3) := by decide +kernel
theorem dX2_hasPart_30 : decode cX2_hasPart 30 = .ok (.iconst 0, 1) := by decide +kernel
theorem dX2_hasPart_31 : decode cX2_hasPart 31 = .ok (.ireturn, 1) := by decide +kernel
theorem dX2_store_0 : decode cX2_store 0 = .ok (.aload_n 0, 1) := by decide +kernel
theorem dX2_store_1 : decode cX2_store 1 = .ok (.getfield 19, 3) := by decide +kernel
theorem dX2_store_4 : decode cX2_store 4 = .ok (.ifCond .ne 14, 3) := by decide +kernel
theorem dX2_store_7 : decode cX2_store 7 = .ok (.aload_n 0, 1) := by decide +kernel
theorem dX2_store_8 : decode cX2_store 8 = .ok (.getfield 15, 3) := by decide +kernel
theorem dX2_store_11 : decode cX2_store 11 = .ok (.iload_n 1, 1) := by decide +kernel
theorem dX2_store_12 : decode cX2_store 12 = .ok (.iload_n 2, 1) := by decide +kernel
theorem dX2_store_13 : decode cX2_store 13 = .ok (.i2b, 1) := by decide +kernel
theorem dX2_store_14 : decode cX2_store 14 = .ok (.iastore, 1) := by decide +kernel
theorem dX2_store_15 : decode cX2_store 15 = .ok (.goto 29, 3) := by decide +kernel
theorem dX2_store_18 : decode cX2_store 18 = .ok (.aload_n 0, 1) := by decide +kernel
theorem dX2_store_19 : decode cX2_store 19 = .ok (.getfield 19, 3) := by decide +kernel
theorem dX2_store_22 : decode cX2_store 22 = .ok (.iconst 1, 1) := by decide +kernel
theorem dX2_store_23 : decode cX2_store 23 = .ok (.if_icmp .ne 14, 3) := by decide +kernel
theorem dX2_store_26 : decode cX2_store 26 = .ok (.aload_n 0, 1) := by decide +kernel
theorem dX2_store_27 : decode cX2_store 27 = .ok (.getfield 15, 3) := by decide +kernel
theorem dX2_store_30 : decode cX2_store 30 = .ok (.iload_n 1, 1) := by decide +kernel
theorem dX2_store_31 : decode cX2_store 31 = .ok (.iload_n 2, 1) := by decide +kernel
theorem dX2_store_32 : decode cX2_store 32 = .ok (.i2s, 1) := by decide +kernel
theorem dX2_store_33 : decode cX2_store 33 = .ok (.iastore, 1) := by decide +kernel
theorem dX2_store_34 : decode cX2_store 34 = .ok (.goto 10, 3) := by decide +kernel
theorem dX2_store_37 : decode cX2_store 37 = .ok (.aload_n 0, 1) := by decide +kernel
theorem dX2_store_38 : decode cX2_store 38 = .ok (.getfield 15, 3) := by decide +kernel
theorem dX2_store_41 : decode cX2_store 41 = .ok (.iload_n 1, 1) := by decide +kernel
theorem dX2_store_42 : decode cX2_store 42 = .ok (.iload_n 2, 1) := by decide +kernel
theorem dX2_store_43 : decode cX2_store 43 = .ok (.iastore, 1) := by decide +kernel
theorem dX2_store_44 : decode cX2_store 44 = .ok (.return_, 1) := by decide +kernel
