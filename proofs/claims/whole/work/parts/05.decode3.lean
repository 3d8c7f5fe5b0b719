/-! the instructions, decoded -/
theorem dX5_init_0 : decode cX5_init 0 = .ok (.aload_n 0, 1) := by decide +kernel
theorem dX5_init_1 : decode cX5_init 1 = .ok (.invokespecial 1, 3) := by decide +kernel
theorem dX5_init_4 : decode cX5_init 4 = .ok (.aload_n 0, 1) := by decide +kernel
theorem dX5_init_5 : decode cX5_init 5 = .ok (.bipush 64, 2) := by decide +kernel
theorem dX5_init_7 : decode cX5_init 7 = .ok (.newarray .int, 2) := by decide +kernel
theorem dX5_init_9 : decode cX5_init 9 = .ok (.putfield 7, 3) := by decide +kernel
theorem dX5_init_12 : decode cX5_init 12 = .ok (.aload_n 0, 1) := by decide +kernel
theorem dX5_init_13 : decode cX5_init 13 = .ok (.ldc 13, 2) := by decide +kernel
theorem dX5_init_15 : decode cX5_init 15 = .ok (.newarray .byte, 2) := by decide +kernel
theorem dX5_init_17 : decode cX5_init 17 = .ok (.putfield 14, 3) := by decide +kernel
theorem dX5_init_20 : decode cX5_init 20 = .ok (.aload_n 0, 1) := by decide +kernel
theorem dX5_init_21 : decode cX5_init 21 = .ok (.bipush 17, 2) := by decide +kernel
theorem dX5_init_23 : decode cX5_init 23 = .ok (.newarray .int, 2) := by decide +kernel
theorem dX5_init_25 : decode cX5_init 25 = .ok (.putfield 18, 3) := by decide +kernel
theorem dX5_init_28 : decode cX5_init 28 = .ok (.aload_n 0, 1) := by decide +kernel
theorem dX5_init_29 : decode cX5_init 29 = .ok (.bipush 17, 2) := by decide +kernel
theorem dX5_init_31 : decode cX5_init 31 = .ok (.newarray .int, 2) := by decide +kernel
theorem dX5_init_33 : decode cX5_init 33 = .ok (.putfield 21, 3) := by decide +kernel
theorem dX5_init_36 : decode cX5_init 36 = .ok (.aload_n 0, 1) := by decide +kernel
theorem dX5_init_37 : decode cX5_init 37 = .ok (.bipush 17, 2) := by decide +kernel
theorem dX5_init_39 : decode cX5_init 39 = .ok (.newarray .int, 2) := by decide +kernel
theorem dX5_init_41 : decode cX5_init 41 = .ok (.putfield 24, 3) := by decide +kernel
theorem dX5_init_44 : decode cX5_init 44 = .ok (.aload_n 0, 1) := by decide +kernel
theorem dX5_init_45 : decode cX5_init 45 = .ok (.bipush 17, 2) := by decide +kernel
theorem dX5_init_47 : decode cX5_init 47 = .ok (.newarray .int, 2) := by decide +kernel
theorem dX5_init_49 : decode cX5_init 49 = .ok (.putfield 27, 3) := by decide +kernel
theorem dX5_init_52 : decode cX5_init 52 = .ok (.aload_n 0, 1) := by decide +kernel
theorem dX5_init_53 : decode cX5_init 53 = .ok (.bipush 17, 2) := by decide +kernel
theorem dX5_init_55 : decode cX5_init 55 = .ok (.newarray .int, 2) := by decide +kernel
theorem dX5_init_57 : decode cX5_init 57 = .ok (.putfield 30, 3) := by decide +kernel
theorem dX5_init_60 : decode cX5_init 60 = .ok (.aload_n 0, 1) := by decide +kernel
theorem dX5_init_61 : decode cX5_init 61 = .ok (.iconst 2, 1) := by decide +kernel
theorem dX5_init_62 : decode cX5_init 62 = .ok (.newarray .int, 2) := by decide +kernel
theorem dX5_init_64 : decode cX5_init 64 = .ok (.putfield 33, 3) := by decide +kernel
theorem dX5_init_67 : decode cX5_init 67 = .ok (.aload_n 0, 1) := by decide +kernel
theorem dX5_init_68 : decode cX5_init 68 = .ok (.bipush 16, 2) := by decide +kernel
theorem dX5_init_70 : decode cX5_init 70 = .ok (.newarray .int, 2) := by decide +kernel
theorem dX5_init_72 : decode cX5_init 72 = .ok (.putfield 36, 3) := by decide +kernel
theorem dX5_init_75 : decode cX5_init 75 = .ok (.aload_n 0, 1) := by decide +kernel
theorem dX5_init_76 : decode cX5_init 76 = .ok (.iconst 4, 1) := by decide +kernel
theorem dX5_init_77 : decode cX5_init 77 = .ok (.newarray .int, 2) := by decide +kernel
theorem dX5_init_79 : decode cX5_init 79 = .ok (.putfield 39, 3) := by decide +kernel
theorem dX5_init_82 : decode cX5_init 82 = .ok (.aload_n 0, 1) := by decide +kernel
theorem dX5_init_83 : decode cX5_init 83 = .ok (.iconst 4, 1) := by decide +kernel
theorem dX5_init_84 : decode cX5_init 84 = .ok (.newarray .int, 2) := by decide +kernel
theorem dX5_init_86 : decode cX5_init 86 = .ok (.putfield 42, 3) := by decide +kernel
theorem dX5_init_89 : decode cX5_init 89 = .ok (.aload_n 0, 1) := by decide +kernel
theorem dX5_init_90 : decode cX5_init 90 = .ok (.bipush 80, 2) := by decide +kernel
theorem dX5_init_92 : decode cX5_init 92 = .ok (.newarray .int, 2) := by decide +kernel
theorem dX5_init_94 : decode cX5_init 94 = .ok (.putfield 45, 3) := by decide +kernel
theorem dX5_init_97 : decode cX5_init 97 = .ok (.aload_n 0, 1) := by decide +kernel
theorem dX5_init_98 : decode cX5_init 98 = .ok (.bipush 20, 2) := by decide +kernel
theorem dX5_init_100 : decode cX5_init 100 = .ok (.newarray .int, 2) := by decide +kernel
theorem dX5_init_102 : decode cX5_init 102 = .ok (.putfield 48, 3) := by decide +kernel
theorem dX5_init_105 : decode cX5_init 105 = .ok (.iconst 0, 1) := by decide +kernel
theorem dX5_init_106 : decode cX5_init 106 = .ok (.istore_n 1, 1) := by decide +kernel
theorem dX5_init_107 : decode cX5_init 107 = .ok (.iload_n 1, 1) := by decide +kernel
theorem dX5_init_108 : decode cX5_init 108 = .ok (.iconst 4, 1) := by decide +kernel
theorem dX5_init_109 : decode cX5_init 109 = .ok (.if_icmp .ge 16, 3) := by decide +kernel
theorem dX5_init_112 : decode cX5_init 112 = .ok (.aload_n 0, 1) := by decide +kernel
theorem dX5_init_113 : decode cX5_init 113 = .ok (.getfield 39, 3) := by decide +kernel
theorem dX5_init_116 : decode cX5_init 116 = .ok (.iload_n 1, 1) := by decide +kernel
theorem dX5_init_117 : decode cX5_init 117 = .ok (.iconst (-1), 1) := by decide +kernel
theorem dX5_init_118 : decode cX5_init 118 = .ok (.iastore, 1) := by decide +kernel
theorem dX5_init_119 : decode cX5_init 119 = .ok (.iinc 1 1, 3) := by decide +kernel
theorem dX5_init_122 : decode cX5_init 122 = .ok (.goto (-15), 3) := by decide +kernel
theorem dX5_init_125 : decode cX5_init 125 = .ok (.aload_n 0, 1) := by decide +kernel
theorem dX5_init_126 : decode cX5_init 126 = .ok (.iconst 4, 1) := by decide +kernel
theorem dX5_init_127 : decode cX5_init 127 = .ok (.iconst 4, 1) := by decide +kernel
theorem dX5_init_128 : decode cX5_init 128 = .ok (.iconst 3, 1) := by decide +kernel
theorem dX5_init_129 : decode cX5_init 129 = .ok (.iconst 0, 1) := by decide +kernel
theorem dX5_init_130 : decode cX5_init 130 = .ok (.invokevirtual 51, 3) := by decide +kernel
theorem dX5_init_133 : decode cX5_init 133 = .ok (.return_, 1) := by decide +kernel
theorem dX5_in_0 : decode cX5_in 0 = .ok (.lload_n 0, 1) := by decide +kernel
theorem dX5_in_1 : decode cX5_in 1 = .ok (.lload_n 2, 1) := by decide +kernel
theorem dX5_in_2 : decode cX5_in 2 = .ok (.lcmp, 1) := by decide +kernel
theorem dX5_in_3 : decode cX5_in 3 = .ok (.ifCond .lt 14, 3) := by decide +kernel
theorem dX5_in_6 : decode cX5_in 6 = .ok (.lload_n 0, 1) := by decide +kernel
theorem dX5_in_7 : decode cX5_in 7 = .ok (.lload 4, 2) := by decide +kernel
theorem dX5_in_9 : decode cX5_in 9 = .ok (.lcmp, 1) := by decide +kernel
theorem dX5_in_10 : decode cX5_in 10 = .ok (.ifCond .gt 7, 3) := by decide +kernel
theorem dX5_in_13 : decode cX5_in 13 = .ok (.iconst 1, 1) := by decide +kernel
theorem dX5_in_14 : decode cX5_in 14 = .ok (.goto 4, 3) := by decide +kernel
theorem dX5_in_17 : decode cX5_in 17 = .ok (.iconst 0, 1) := by decide +kernel
theorem dX5_in_18 : decode cX5_in 18 = .ok (.ireturn, 1) := by decide +kernel
theorem dX5_board_0 : decode cX5_board 0 = .ok (.iload_n 1, 1) := by decide +kernel
theorem dX5_board_1 : decode cX5_board 1 = .ok (.i2l, 1) := by decide +kernel
theorem dX5_board_2 : decode cX5_board 2 = .ok (.lconst 1, 1) := by decide +kernel
theorem dX5_board_3 : decode cX5_board 3 = .ok (.ldc2_w 55, 3) := by decide +kernel
theorem dX5_board_6 : decode cX5_board 6 = .ok (.invokestatic 57, 3) := by decide +kernel
theorem dX5_board_9 : decode cX5_board 9 = .ok (.ifCond .eq 37, 3) := by decide +kernel
theorem dX5_board_12 : decode cX5_board 12 = .ok (.iload_n 2, 1) := by decide +kernel
theorem dX5_board_13 : decode cX5_board 13 = .ok (.i2l, 1) := by decide +kernel
theorem dX5_board_14 : decode cX5_board 14 = .ok (.lconst 1, 1) := by decide +kernel
theorem dX5_board_15 : decode cX5_board 15 = .ok (.ldc2_w 61, 3) := by decide +kernel
theorem dX5_board_18 : decode cX5_board 18 = .ok (.invokestatic 57, 3) := by decide +kernel
theorem dX5_board_21 : decode cX5_board 21 = .ok (.ifCond .eq 25, 3) := by decide +kernel
theorem dX5_board_24 : decode cX5_board 24 = .ok (.iload_n 1, 1) := by decide +kernel
theorem dX5_board_25 : decode cX5_board 25 = .ok (.iload_n 2, 1) := by decide +kernel
theorem dX5_board_26 : decode cX5_board 26 = .ok (.imul, 1) := by decide +kernel
theorem dX5_board_27 : decode cX5_board 27 = .ok (.bipush 16, 2) := by decide +kernel
theorem dX5_board_29 : decode cX5_board 29 = .ok (.if_icmp .gt 17, 3) := by decide +kernel
theorem dX5_board_32 : decode cX5_board 32 = .ok (.iload_n 3, 1) := by decide +kernel
theorem dX5_board_33 : decode cX5_board 33 = .ok (.i2l, 1) := by decide +kernel
theorem dX5_board_34 : decode cX5_board 34 = .ok (.ldc2_w 63, 3) := by decide +kernel
theorem dX5_board_37 : decode cX5_board 37 = .ok (.ldc2_w 65, 3) := by decide +kernel
theorem dX5_board_40 : decode cX5_board 40 = .ok (.invokestatic 57, 3) := by decide +kernel
theorem dX5_board_43 : decode cX5_board 43 = .ok (.ifCond .ne 7, 3) := by decide +kernel
theorem dX5_board_46 : decode cX5_board 46 = .ok (.sipush (-200), 3) := by decide +kernel
theorem dX5_board_49 : decode cX5_board 49 = .ok (.ireturn, 1) := by decide +kernel
theorem dX5_board_50 : decode cX5_board 50 = .ok (.aload_n 0, 1) := by decide +kernel
theorem dX5_board_51 : decode cX5_board 51 = .ok (.getfield 67, 3) := by decide +kernel
theorem dX5_board_54 : decode cX5_board 54 = .ok (.bipush 12, 2) := by decide +kernel
theorem dX5_board_56 : decode cX5_board 56 = .ok (.if_icmp .ne 7, 3) := by decide +kernel
theorem dX5_board_59 : decode cX5_board 59 = .ok (.sipush (-202), 3) := by decide +kernel
theorem dX5_board_62 : decode cX5_board 62 = .ok (.ireturn, 1) := by decide +kernel
theorem dX5_board_63 : decode cX5_board 63 = .ok (.aload_n 0, 1) := by decide +kernel
theorem dX5_board_64 : decode cX5_board 64 = .ok (.dup, 1) := by decide +kernel
theorem dX5_board_65 : decode cX5_board 65 = .ok (.getfield 67, 3) := by decide +kernel
theorem dX5_board_68 : decode cX5_board 68 = .ok (.iconst 1, 1) := by decide +kernel
theorem dX5_board_69 : decode cX5_board 69 = .ok (.iadd, 1) := by decide +kernel
theorem dX5_board_70 : decode cX5_board 70 = .ok (.putfield 67, 3) := by decide +kernel
theorem dX5_board_73 : decode cX5_board 73 = .ok (.aload_n 0, 1) := by decide +kernel
theorem dX5_board_74 : decode cX5_board 74 = .ok (.iload_n 1, 1) := by decide +kernel
theorem dX5_board_75 : decode cX5_board 75 = .ok (.iload_n 2, 1) := by decide +kernel
theorem dX5_board_76 : decode cX5_board 76 = .ok (.iload_n 3, 1) := by decide +kernel
theorem dX5_board_77 : decode cX5_board 77 = .ok (.iload 4, 2) := by decide +kernel
theorem dX5_board_79 : decode cX5_board 79 = .ok (.invokevirtual 51, 3) := by decide +kernel
theorem dX5_board_82 : decode cX5_board 82 = .ok (.aload_n 0, 1) := by decide +kernel
theorem dX5_board_83 : decode cX5_board 83 = .ok (.getfield 71, 3) := by decide +kernel
theorem dX5_board_86 : decode cX5_board 86 = .ok (.ireturn, 1) := by decide +kernel
theorem dX5_begin_0 : decode cX5_begin 0 = .ok (.aload_n 0, 1) := by decide +kernel
theorem dX5_begin_1 : decode cX5_begin 1 = .ok (.iload_n 1, 1) := by decide +kernel
theorem dX5_begin_2 : decode cX5_begin 2 = .ok (.putfield 74, 3) := by decide +kernel
theorem dX5_begin_5 : decode cX5_begin 5 = .ok (.aload_n 0, 1) := by decide +kernel
theorem dX5_begin_6 : decode cX5_begin 6 = .ok (.iload_n 2, 1) := by decide +kernel
theorem dX5_begin_7 : decode cX5_begin 7 = .ok (.putfield 77, 3) := by decide +kernel
theorem dX5_begin_10 : decode cX5_begin 10 = .ok (.aload_n 0, 1) := by decide +kernel
theorem dX5_begin_11 : decode cX5_begin 11 = .ok (.iload_n 3, 1) := by decide +kernel
theorem dX5_begin_12 : decode cX5_begin 12 = .ok (.putfield 80, 3) := by decide +kernel
theorem dX5_begin_15 : decode cX5_begin 15 = .ok (.aload_n 0, 1) := by decide +kernel
theorem dX5_begin_16 : decode cX5_begin 16 = .ok (.iload 4, 2) := by decide +kernel
theorem dX5_begin_18 : decode cX5_begin 18 = .ok (.putfield 83, 3) := by decide +kernel
theorem dX5_begin_21 : decode cX5_begin 21 = .ok (.aload_n 0, 1) := by decide +kernel
theorem dX5_begin_22 : decode cX5_begin 22 = .ok (.invokevirtual 87, 3) := by decide +kernel
theorem dX5_begin_25 : decode cX5_begin 25 = .ok (.aload_n 0, 1) := by decide +kernel
theorem dX5_begin_26 : decode cX5_begin 26 = .ok (.invokevirtual 90, 3) := by decide +kernel
theorem dX5_begin_29 : decode cX5_begin 29 = .ok (.aload_n 0, 1) := by decide +kernel
theorem dX5_begin_30 : decode cX5_begin 30 = .ok (.invokevirtual 93, 3) := by decide +kernel
theorem dX5_begin_33 : decode cX5_begin 33 = .ok (.aload_n 0, 1) := by decide +kernel
theorem dX5_begin_34 : decode cX5_begin 34 = .ok (.iconst 0, 1) := by decide +kernel
theorem dX5_begin_35 : decode cX5_begin 35 = .ok (.putfield 96, 3) := by decide +kernel
theorem dX5_begin_38 : decode cX5_begin 38 = .ok (.aload_n 0, 1) := by decide +kernel
theorem dX5_begin_39 : decode cX5_begin 39 = .ok (.invokevirtual 99, 3) := by decide +kernel
theorem dX5_begin_42 : decode cX5_begin 42 = .ok (.return_, 1) := by decide +kernel
theorem dX5_squaresOf_0 : decode cX5_squaresOf 0 = .ok (.iconst 0, 1) := by decide +kernel
theorem dX5_squaresOf_1 : decode cX5_squaresOf 1 = .ok (.istore 5, 2) := by decide +kernel
theorem dX5_squaresOf_3 : decode cX5_squaresOf 3 = .ok (.iload_n 1, 1) := by decide +kernel
theorem dX5_squaresOf_4 : decode cX5_squaresOf 4 = .ok (.istore 6, 2) := by decide +kernel
theorem dX5_squaresOf_6 : decode cX5_squaresOf 6 = .ok (.iload_n 2, 1) := by decide +kernel
theorem dX5_squaresOf_7 : decode cX5_squaresOf 7 = .ok (.istore 7, 2) := by decide +kernel
theorem dX5_squaresOf_9 : decode cX5_squaresOf 9 = .ok (.iconst 0, 1) := by decide +kernel
theorem dX5_squaresOf_10 : decode cX5_squaresOf 10 = .ok (.istore 8, 2) := by decide +kernel
theorem dX5_squaresOf_12 : decode cX5_squaresOf 12 = .ok (.iload 8, 2) := by decide +kernel
theorem dX5_squaresOf_14 : decode cX5_squaresOf 14 = .ok (.aload_n 0, 1) := by decide +kernel
theorem dX5_squaresOf_15 : decode cX5_squaresOf 15 = .ok (.getfield 80, 3) := by decide +kernel
theorem dX5_squaresOf_18 : decode cX5_squaresOf 18 = .ok (.if_icmp .ge 119, 3) := by decide +kernel
theorem dX5_squaresOf_21 : decode cX5_squaresOf 21 = .ok (.iload 6, 2) := by decide +kernel
theorem dX5_squaresOf_23 : decode cX5_squaresOf 23 = .ok (.i2l, 1) := by decide +kernel
theorem dX5_squaresOf_24 : decode cX5_squaresOf 24 = .ok (.lconst 0, 1) := by decide +kernel
theorem dX5_squaresOf_25 : decode cX5_squaresOf 25 = .ok (.aload_n 0, 1) := by decide +kernel
theorem dX5_squaresOf_26 : decode cX5_squaresOf 26 = .ok (.getfield 74, 3) := by decide +kernel
theorem dX5_squaresOf_29 : decode cX5_squaresOf 29 = .ok (.iconst 1, 1) := by decide +kernel
theorem dX5_squaresOf_30 : decode cX5_squaresOf 30 = .ok (.isub, 1) := by decide +kernel
theorem dX5_squaresOf_31 : decode cX5_squaresOf 31 = .ok (.i2l, 1) := by decide +kernel
theorem dX5_squaresOf_32 : decode cX5_squaresOf 32 = .ok (.invokestatic 57, 3) := by decide +kernel
theorem dX5_squaresOf_35 : decode cX5_squaresOf 35 = .ok (.ifCond .eq 12, 3) := by decide +kernel
theorem dX5_squaresOf_38 : decode cX5_squaresOf 38 = .ok (.iload 7, 2) := by decide +kernel
theorem dX5_squaresOf_40 : decode cX5_squaresOf 40 = .ok (.aload_n 0, 1) := by decide +kernel
theorem dX5_squaresOf_41 : decode cX5_squaresOf 41 = .ok (.getfield 77, 3) := by decide +kernel
theorem dX5_squaresOf_44 : decode cX5_squaresOf 44 = .ok (.if_icmp .lt 5, 3) := by decide +kernel
theorem dX5_squaresOf_47 : decode cX5_squaresOf 47 = .ok (.iconst 0, 1) := by decide +kernel
theorem dX5_squaresOf_48 : decode cX5_squaresOf 48 = .ok (.ireturn, 1) := by decide +kernel
theorem dX5_squaresOf_49 : decode cX5_squaresOf 49 = .ok (.iconst 1, 1) := by decide +kernel
theorem dX5_squaresOf_50 : decode cX5_squaresOf 50 = .ok (.aload_n 0, 1) := by decide +kernel
theorem dX5_squaresOf_51 : decode cX5_squaresOf 51 = .ok (.getfield 74, 3) := by decide +kernel
theorem dX5_squaresOf_54 : decode cX5_squaresOf 54 = .ok (.iload 7, 2) := by decide +kernel
theorem dX5_squaresOf_56 : decode cX5_squaresOf 56 = .ok (.imul, 1) := by decide +kernel
theorem dX5_squaresOf_57 : decode cX5_squaresOf 57 = .ok (.iload 6, 2) := by decide +kernel
theorem dX5_squaresOf_59 : decode cX5_squaresOf 59 = .ok (.iadd, 1) := by decide +kernel
theorem dX5_squaresOf_60 : decode cX5_squaresOf 60 = .ok (.ishl, 1) := by decide +kernel
theorem dX5_squaresOf_61 : decode cX5_squaresOf 61 = .ok (.istore 9, 2) := by decide +kernel
theorem dX5_squaresOf_63 : decode cX5_squaresOf 63 = .ok (.iload 5, 2) := by decide +kernel
theorem dX5_squaresOf_65 : decode cX5_squaresOf 65 = .ok (.iload 9, 2) := by decide +kernel
theorem dX5_squaresOf_67 : decode cX5_squaresOf 67 = .ok (.iand, 1) := by decide +kernel
theorem dX5_squaresOf_68 : decode cX5_squaresOf 68 = .ok (.ifCond .eq 5, 3) := by decide +kernel
theorem dX5_squaresOf_71 : decode cX5_squaresOf 71 = .ok (.iconst 0, 1) := by decide +kernel
theorem dX5_squaresOf_72 : decode cX5_squaresOf 72 = .ok (.ireturn, 1) := by decide +kernel
theorem dX5_squaresOf_73 : decode cX5_squaresOf 73 = .ok (.iload 5, 2) := by decide +kernel
theorem dX5_squaresOf_75 : decode cX5_squaresOf 75 = .ok (.iload 9, 2) := by decide +kernel
theorem dX5_squaresOf_77 : decode cX5_squaresOf 77 = .ok (.ior, 1) := by decide +kernel
theorem dX5_squaresOf_78 : decode cX5_squaresOf 78 = .ok (.istore 5, 2) := by decide +kernel
theorem dX5_squaresOf_80 : decode cX5_squaresOf 80 = .ok (.iload 6, 2) := by decide +kernel
theorem dX5_squaresOf_82 : decode cX5_squaresOf 82 = .ok (.iload_n 3, 1) := by decide +kernel
theorem dX5_squaresOf_83 : decode cX5_squaresOf 83 = .ok (.iadd, 1) := by decide +kernel
theorem dX5_squaresOf_84 : decode cX5_squaresOf 84 = .ok (.istore 6, 2) := by decide +kernel
theorem dX5_squaresOf_86 : decode cX5_squaresOf 86 = .ok (.iload 7, 2) := by decide +kernel
theorem dX5_squaresOf_88 : decode cX5_squaresOf 88 = .ok (.iload 4, 2) := by decide +kernel
theorem dX5_squaresOf_90 : decode cX5_squaresOf 90 = .ok (.iadd, 1) := by decide +kernel
theorem dX5_squaresOf_91 : decode cX5_squaresOf 91 = .ok (.istore 7, 2) := by decide +kernel
theorem dX5_squaresOf_93 : decode cX5_squaresOf 93 = .ok (.aload_n 0, 1) := by decide +kernel
theorem dX5_squaresOf_94 : decode cX5_squaresOf 94 = .ok (.getfield 83, 3) := by decide +kernel
theorem dX5_squaresOf_97 : decode cX5_squaresOf 97 = .ok (.ifCond .eq 34, 3) := by decide +kernel
theorem dX5_squaresOf_100 : decode cX5_squaresOf 100 = .ok (.iload 6, 2) := by decide +kernel
theorem dX5_squaresOf_102 : decode cX5_squaresOf 102 = .ok (.ifCond .ge 12, 3) := by decide +kernel
theorem dX5_squaresOf_105 : decode cX5_squaresOf 105 = .ok (.aload_n 0, 1) := by decide +kernel
theorem dX5_squaresOf_106 : decode cX5_squaresOf 106 = .ok (.getfield 74, 3) := by decide +kernel
theorem dX5_squaresOf_109 : decode cX5_squaresOf 109 = .ok (.iconst 1, 1) := by decide +kernel
theorem dX5_squaresOf_110 : decode cX5_squaresOf 110 = .ok (.isub, 1) := by decide +kernel
theorem dX5_squaresOf_111 : decode cX5_squaresOf 111 = .ok (.goto 18, 3) := by decide +kernel
theorem dX5_squaresOf_114 : decode cX5_squaresOf 114 = .ok (.iload 6, 2) := by decide +kernel
theorem dX5_squaresOf_116 : decode cX5_squaresOf 116 = .ok (.aload_n 0, 1) := by decide +kernel
theorem dX5_squaresOf_117 : decode cX5_squaresOf 117 = .ok (.getfield 74, 3) := by decide +kernel
theorem dX5_squaresOf_120 : decode cX5_squaresOf 120 = .ok (.if_icmp .ne 7, 3) := by decide +kernel
theorem dX5_squaresOf_123 : decode cX5_squaresOf 123 = .ok (.iconst 0, 1) := by decide +kernel
theorem dX5_squaresOf_124 : decode cX5_squaresOf 124 = .ok (.goto 5, 3) := by decide +kernel
theorem dX5_squaresOf_127 : decode cX5_squaresOf 127 = .ok (.iload 6, 2) := by decide +kernel
theorem dX5_squaresOf_129 : decode cX5_squaresOf 129 = .ok (.istore 6, 2) := by decide +kernel
theorem dX5_squaresOf_131 : decode cX5_squaresOf 131 = .ok (.iinc 8 1, 3) := by decide +kernel
theorem dX5_squaresOf_134 : decode cX5_squaresOf 134 = .ok (.goto (-122), 3) := by decide +kernel
theorem dX5_squaresOf_137 : decode cX5_squaresOf 137 = .ok (.iload 5, 2) := by decide +kernel
theorem dX5_squaresOf_139 : decode cX5_squaresOf 139 = .ok (.ireturn, 1) := by decide +kernel
theorem dX5_addRow_0 : decode cX5_addRow 0 = .ok (.iconst 0, 1) := by decide +kernel
theorem dX5_addRow_1 : decode cX5_addRow 1 = .ok (.istore_n 2, 1) := by decide +kernel
theorem dX5_addRow_2 : decode cX5_addRow 2 = .ok (.iload_n 2, 1) := by decide +kernel
theorem dX5_addRow_3 : decode cX5_addRow 3 = .ok (.aload_n 0, 1) := by decide +kernel
theorem dX5_addRow_4 : decode cX5_addRow 4 = .ok (.getfield 71, 3) := by decide +kernel
theorem dX5_addRow_7 : decode cX5_addRow 7 = .ok (.if_icmp .ge 20, 3) := by decide +kernel
theorem dX5_addRow_10 : decode cX5_addRow 10 = .ok (.aload_n 0, 1) := by decide +kernel
theorem dX5_addRow_11 : decode cX5_addRow 11 = .ok (.getfield 7, 3) := by decide +kernel
theorem dX5_addRow_14 : decode cX5_addRow 14 = .ok (.iload_n 2, 1) := by decide +kernel
theorem dX5_addRow_15 : decode cX5_addRow 15 = .ok (.iaload, 1) := by decide +kernel
theorem dX5_addRow_16 : decode cX5_addRow 16 = .ok (.iload_n 1, 1) := by decide +kernel
theorem dX5_addRow_17 : decode cX5_addRow 17 = .ok (.if_icmp .ne 4, 3) := by decide +kernel
theorem dX5_addRow_20 : decode cX5_addRow 20 = .ok (.return_, 1) := by decide +kernel
theorem dX5_addRow_21 : decode cX5_addRow 21 = .ok (.iinc 2 1, 3) := by decide +kernel
theorem dX5_addRow_24 : decode cX5_addRow 24 = .ok (.goto (-22), 3) := by decide +kernel
theorem dX5_addRow_27 : decode cX5_addRow 27 = .ok (.iload_n 1, 1) := by decide +kernel
theorem dX5_addRow_28 : decode cX5_addRow 28 = .ok (.ifCond .eq 23, 3) := by decide +kernel
theorem dX5_addRow_31 : decode cX5_addRow 31 = .ok (.aload_n 0, 1) := by decide +kernel
theorem dX5_addRow_32 : decode cX5_addRow 32 = .ok (.getfield 7, 3) := by decide +kernel
theorem dX5_addRow_35 : decode cX5_addRow 35 = .ok (.aload_n 0, 1) := by decide +kernel
theorem dX5_addRow_36 : decode cX5_addRow 36 = .ok (.getfield 71, 3) := by decide +kernel
theorem dX5_addRow_39 : decode cX5_addRow 39 = .ok (.iload_n 1, 1) := by decide +kernel
theorem dX5_addRow_40 : decode cX5_addRow 40 = .ok (.iastore, 1) := by decide +kernel
theorem dX5_addRow_41 : decode cX5_addRow 41 = .ok (.aload_n 0, 1) := by decide +kernel
theorem dX5_addRow_42 : decode cX5_addRow 42 = .ok (.dup, 1) := by decide +kernel
theorem dX5_addRow_43 : decode cX5_addRow 43 = .ok (.getfield 71, 3) := by decide +kernel
theorem dX5_addRow_46 : decode cX5_addRow 46 = .ok (.iconst 1, 1) := by decide +kernel
theorem dX5_addRow_47 : decode cX5_addRow 47 = .ok (.iadd, 1) := by decide +kernel
theorem dX5_addRow_48 : decode cX5_addRow 48 = .ok (.putfield 71, 3) := by decide +kernel
theorem dX5_addRow_51 : decode cX5_addRow 51 = .ok (.return_, 1) := by decide +kernel
theorem dX5_findRows_0 : decode cX5_findRows 0 = .ok (.aload_n 0, 1) := by decide +kernel
theorem dX5_findRows_1 : decode cX5_findRows 1 = .ok (.iconst 0, 1) := by decide +kernel
theorem dX5_findRows_2 : decode cX5_findRows 2 = .ok (.putfield 71, 3) := by decide +kernel
theorem dX5_findRows_5 : decode cX5_findRows 5 = .ok (.iconst 0, 1) := by decide +kernel
theorem dX5_findRows_6 : decode cX5_findRows 6 = .ok (.istore_n 1, 1) := by decide +kernel
theorem dX5_findRows_7 : decode cX5_findRows 7 = .ok (.iload_n 1, 1) := by decide +kernel
theorem dX5_findRows_8 : decode cX5_findRows 8 = .ok (.aload_n 0, 1) := by decide +kernel
theorem dX5_findRows_9 : decode cX5_findRows 9 = .ok (.getfield 77, 3) := by decide +kernel
theorem dX5_findRows_12 : decode cX5_findRows 12 = .ok (.if_icmp .ge 73, 3) := by decide +kernel
theorem dX5_findRows_15 : decode cX5_findRows 15 = .ok (.iconst 0, 1) := by decide +kernel
theorem dX5_findRows_16 : decode cX5_findRows 16 = .ok (.istore_n 2, 1) := by decide +kernel
theorem dX5_findRows_17 : decode cX5_findRows 17 = .ok (.iload_n 2, 1) := by decide +kernel
theorem dX5_findRows_18 : decode cX5_findRows 18 = .ok (.aload_n 0, 1) := by decide +kernel
theorem dX5_findRows_19 : decode cX5_findRows 19 = .ok (.getfield 74, 3) := by decide +kernel
theorem dX5_findRows_22 : decode cX5_findRows 22 = .ok (.if_icmp .ge 57, 3) := by decide +kernel
theorem dX5_findRows_25 : decode cX5_findRows 25 = .ok (.aload_n 0, 1) := by decide +kernel
theorem dX5_findRows_26 : decode cX5_findRows 26 = .ok (.aload_n 0, 1) := by decide +kernel
theorem dX5_findRows_27 : decode cX5_findRows 27 = .ok (.iload_n 2, 1) := by decide +kernel
theorem dX5_findRows_28 : decode cX5_findRows 28 = .ok (.iload_n 1, 1) := by decide +kernel
theorem dX5_findRows_29 : decode cX5_findRows 29 = .ok (.iconst 1, 1) := by decide +kernel
theorem dX5_findRows_30 : decode cX5_findRows 30 = .ok (.iconst 0, 1) := by decide +kernel
theorem dX5_findRows_31 : decode cX5_findRows 31 = .ok (.invokevirtual 102, 3) := by decide +kernel
theorem dX5_findRows_34 : decode cX5_findRows 34 = .ok (.invokevirtual 106, 3) := by decide +kernel
theorem dX5_findRows_37 : decode cX5_findRows 37 = .ok (.aload_n 0, 1) := by decide +kernel
theorem dX5_findRows_38 : decode cX5_findRows 38 = .ok (.aload_n 0, 1) := by decide +kernel
theorem dX5_findRows_39 : decode cX5_findRows 39 = .ok (.iload_n 2, 1) := by decide +kernel
theorem dX5_findRows_40 : decode cX5_findRows 40 = .ok (.iload_n 1, 1) := by decide +kernel
theorem dX5_findRows_41 : decode cX5_findRows 41 = .ok (.iconst 0, 1) := by decide +kernel
theorem dX5_findRows_42 : decode cX5_findRows 42 = .ok (.iconst 1, 1) := by decide +kernel
theorem dX5_findRows_43 : decode cX5_findRows 43 = .ok (.invokevirtual 102, 3) := by decide +kernel
theorem dX5_findRows_46 : decode cX5_findRows 46 = .ok (.invokevirtual 106, 3) := by decide +kernel
theorem dX5_findRows_49 : decode cX5_findRows 49 = .ok (.aload_n 0, 1) := by decide +kernel
theorem dX5_findRows_50 : decode cX5_findRows 50 = .ok (.aload_n 0, 1) := by decide +kernel
theorem dX5_findRows_51 : decode cX5_findRows 51 = .ok (.iload_n 2, 1) := by decide +kernel
theorem dX5_findRows_52 : decode cX5_findRows 52 = .ok (.iload_n 1, 1) := by decide +kernel
theorem dX5_findRows_53 : decode cX5_findRows 53 = .ok (.iconst 1, 1) := by decide +kernel
theorem dX5_findRows_54 : decode cX5_findRows 54 = .ok (.iconst 1, 1) := by decide +kernel
theorem dX5_findRows_55 : decode cX5_findRows 55 = .ok (.invokevirtual 102, 3) := by decide +kernel
theorem dX5_findRows_58 : decode cX5_findRows 58 = .ok (.invokevirtual 106, 3) := by decide +kernel
theorem dX5_findRows_61 : decode cX5_findRows 61 = .ok (.aload_n 0, 1) := by decide +kernel
theorem dX5_findRows_62 : decode cX5_findRows 62 = .ok (.aload_n 0, 1) := by decide +kernel
theorem dX5_findRows_63 : decode cX5_findRows 63 = .ok (.iload_n 2, 1) := by decide +kernel
theorem dX5_findRows_64 : decode cX5_findRows 64 = .ok (.iload_n 1, 1) := by decide +kernel
theorem dX5_findRows_65 : decode cX5_findRows 65 = .ok (.iconst (-1), 1) := by decide +kernel
theorem dX5_findRows_66 : decode cX5_findRows 66 = .ok (.iconst 1, 1) := by decide +kernel
theorem dX5_findRows_67 : decode cX5_findRows 67 = .ok (.invokevirtual 102, 3) := by decide +kernel
theorem dX5_findRows_70 : decode cX5_findRows 70 = .ok (.invokevirtual 106, 3) := by decide +kernel
theorem dX5_findRows_73 : decode cX5_findRows 73 = .ok (.iinc 2 1, 3) := by decide +kernel
theorem dX5_findRows_76 : decode cX5_findRows 76 = .ok (.goto (-59), 3) := by decide +kernel
theorem dX5_findRows_79 : decode cX5_findRows 79 = .ok (.iinc 1 1, 3) := by decide +kernel
theorem dX5_findRows_82 : decode cX5_findRows 82 = .ok (.goto (-75), 3) := by decide +kernel
theorem dX5_findRows_85 : decode cX5_findRows 85 = .ok (.return_, 1) := by decide +kernel
theorem dX5_keyOfNone_0 : decode cX5_keyOfNone 0 = .ok (.iconst 0, 1) := by decide +kernel
theorem dX5_keyOfNone_1 : decode cX5_keyOfNone 1 = .ok (.istore_n 1, 1) := by decide +kernel
theorem dX5_keyOfNone_2 : decode cX5_keyOfNone 2 = .ok (.iconst 0, 1) := by decide +kernel
theorem dX5_keyOfNone_3 : decode cX5_keyOfNone 3 = .ok (.istore_n 2, 1) := by decide +kernel
theorem dX5_keyOfNone_4 : decode cX5_keyOfNone 4 = .ok (.iload_n 2, 1) := by decide +kernel
theorem dX5_keyOfNone_5 : decode cX5_keyOfNone 5 = .ok (.aload_n 0, 1) := by decide +kernel
theorem dX5_keyOfNone_6 : decode cX5_keyOfNone 6 = .ok (.getfield 74, 3) := by decide +kernel
theorem dX5_keyOfNone_9 : decode cX5_keyOfNone 9 = .ok (.if_icmp .ge 22, 3) := by decide +kernel
theorem dX5_keyOfNone_12 : decode cX5_keyOfNone 12 = .ok (.iload_n 1, 1) := by decide +kernel
theorem dX5_keyOfNone_13 : decode cX5_keyOfNone 13 = .ok (.iconst 1, 1) := by decide +kernel
theorem dX5_keyOfNone_14 : decode cX5_keyOfNone 14 = .ok (.iload_n 2, 1) := by decide +kernel
theorem dX5_keyOfNone_15 : decode cX5_keyOfNone 15 = .ok (.aload_n 0, 1) := by decide +kernel
theorem dX5_keyOfNone_16 : decode cX5_keyOfNone 16 = .ok (.getfield 77, 3) := by decide +kernel
theorem dX5_keyOfNone_19 : decode cX5_keyOfNone 19 = .ok (.iconst 1, 1) := by decide +kernel
theorem dX5_keyOfNone_20 : decode cX5_keyOfNone 20 = .ok (.iadd, 1) := by decide +kernel
theorem dX5_keyOfNone_21 : decode cX5_keyOfNone 21 = .ok (.imul, 1) := by decide +kernel
theorem dX5_keyOfNone_22 : decode cX5_keyOfNone 22 = .ok (.ishl, 1) := by decide +kernel
theorem dX5_keyOfNone_23 : decode cX5_keyOfNone 23 = .ok (.ior, 1) := by decide +kernel
theorem dX5_keyOfNone_24 : decode cX5_keyOfNone 24 = .ok (.istore_n 1, 1) := by decide +kernel
theorem dX5_keyOfNone_25 : decode cX5_keyOfNone 25 = .ok (.iinc 2 1, 3) := by decide +kernel
theorem dX5_keyOfNone_28 : decode cX5_keyOfNone 28 = .ok (.goto (-24), 3) := by decide +kernel
theorem dX5_keyOfNone_31 : decode cX5_keyOfNone 31 = .ok (.iload_n 1, 1) := by decide +kernel
theorem dX5_keyOfNone_32 : decode cX5_keyOfNone 32 = .ok (.ireturn, 1) := by decide +kernel
theorem dX5_columnOf_0 : decode cX5_columnOf 0 = .ok (.iload_n 1, 1) := by decide +kernel
theorem dX5_columnOf_1 : decode cX5_columnOf 1 = .ok (.iload_n 2, 1) := by decide +kernel
theorem dX5_columnOf_2 : decode cX5_columnOf 2 = .ok (.aload_n 0, 1) := by decide +kernel
theorem dX5_columnOf_3 : decode cX5_columnOf 3 = .ok (.getfield 77, 3) := by decide +kernel
theorem dX5_columnOf_6 : decode cX5_columnOf 6 = .ok (.iconst 1, 1) := by decide +kernel
theorem dX5_columnOf_7 : decode cX5_columnOf 7 = .ok (.iadd, 1) := by decide +kernel
theorem dX5_columnOf_8 : decode cX5_columnOf 8 = .ok (.imul, 1) := by decide +kernel
theorem dX5_columnOf_9 : decode cX5_columnOf 9 = .ok (.ishr, 1) := by decide +kernel
theorem dX5_columnOf_10 : decode cX5_columnOf 10 = .ok (.iconst 1, 1) := by decide +kernel
theorem dX5_columnOf_11 : decode cX5_columnOf 11 = .ok (.aload_n 0, 1) := by decide +kernel
theorem dX5_columnOf_12 : decode cX5_columnOf 12 = .ok (.getfield 77, 3) := by decide +kernel
theorem dX5_columnOf_15 : decode cX5_columnOf 15 = .ok (.iconst 1, 1) := by decide +kernel
theorem dX5_columnOf_16 : decode cX5_columnOf 16 = .ok (.iadd, 1) := by decide +kernel
theorem dX5_columnOf_17 : decode cX5_columnOf 17 = .ok (.ishl, 1) := by decide +kernel
theorem dX5_columnOf_18 : decode cX5_columnOf 18 = .ok (.iconst 1, 1) := by decide +kernel
theorem dX5_columnOf_19 : decode cX5_columnOf 19 = .ok (.isub, 1) := by decide +kernel
theorem dX5_columnOf_20 : decode cX5_columnOf 20 = .ok (.iand, 1) := by decide +kernel
theorem dX5_columnOf_21 : decode cX5_columnOf 21 = .ok (.ireturn, 1) := by decide +kernel
theorem dX5_heightOf_0 : decode cX5_heightOf 0 = .ok (.aload_n 0, 1) := by decide +kernel
theorem dX5_heightOf_1 : decode cX5_heightOf 1 = .ok (.iload_n 1, 1) := by decide +kernel
theorem dX5_heightOf_2 : decode cX5_heightOf 2 = .ok (.iload_n 2, 1) := by decide +kernel
theorem dX5_heightOf_3 : decode cX5_heightOf 3 = .ok (.invokevirtual 110, 3) := by decide +kernel
theorem dX5_heightOf_6 : decode cX5_heightOf 6 = .ok (.istore_n 3, 1) := by decide +kernel
theorem dX5_heightOf_7 : decode cX5_heightOf 7 = .ok (.iconst 0, 1) := by decide +kernel
theorem dX5_heightOf_8 : decode cX5_heightOf 8 = .ok (.istore 4, 2) := by decide +kernel
theorem dX5_heightOf_10 : decode cX5_heightOf 10 = .ok (.iload_n 3, 1) := by decide +kernel
theorem dX5_heightOf_11 : decode cX5_heightOf 11 = .ok (.iconst 1, 1) := by decide +kernel
theorem dX5_heightOf_12 : decode cX5_heightOf 12 = .ok (.if_icmp .le 13, 3) := by decide +kernel
theorem dX5_heightOf_15 : decode cX5_heightOf 15 = .ok (.iload_n 3, 1) := by decide +kernel
theorem dX5_heightOf_16 : decode cX5_heightOf 16 = .ok (.iconst 1, 1) := by decide +kernel
theorem dX5_heightOf_17 : decode cX5_heightOf 17 = .ok (.ishr, 1) := by decide +kernel
theorem dX5_heightOf_18 : decode cX5_heightOf 18 = .ok (.istore_n 3, 1) := by decide +kernel
theorem dX5_heightOf_19 : decode cX5_heightOf 19 = .ok (.iinc 4 1, 3) := by decide +kernel
theorem dX5_heightOf_22 : decode cX5_heightOf 22 = .ok (.goto (-12), 3) := by decide +kernel
theorem dX5_heightOf_25 : decode cX5_heightOf 25 = .ok (.iload 4, 2) := by decide +kernel
theorem dX5_heightOf_27 : decode cX5_heightOf 27 = .ok (.ireturn, 1) := by decide +kernel
theorem dX5_dropped_0 : decode cX5_dropped 0 = .ok (.iload_n 1, 1) := by decide +kernel
theorem dX5_dropped_1 : decode cX5_dropped 1 = .ok (.iconst 1, 1) := by decide +kernel
theorem dX5_dropped_2 : decode cX5_dropped 2 = .ok (.iload_n 3, 1) := by decide +kernel
theorem dX5_dropped_3 : decode cX5_dropped 3 = .ok (.iadd, 1) := by decide +kernel
theorem dX5_dropped_4 : decode cX5_dropped 4 = .ok (.iload_n 2, 1) := by decide +kernel
theorem dX5_dropped_5 : decode cX5_dropped 5 = .ok (.aload_n 0, 1) := by decide +kernel
theorem dX5_dropped_6 : decode cX5_dropped 6 = .ok (.getfield 77, 3) := by decide +kernel
theorem dX5_dropped_9 : decode cX5_dropped 9 = .ok (.iconst 1, 1) := by decide +kernel
theorem dX5_dropped_10 : decode cX5_dropped 10 = .ok (.iadd, 1) := by decide +kernel
theorem dX5_dropped_11 : decode cX5_dropped 11 = .ok (.imul, 1) := by decide +kernel
theorem dX5_dropped_12 : decode cX5_dropped 12 = .ok (.aload_n 0, 1) := by decide +kernel
theorem dX5_dropped_13 : decode cX5_dropped 13 = .ok (.iload_n 1, 1) := by decide +kernel
theorem dX5_dropped_14 : decode cX5_dropped 14 = .ok (.iload_n 2, 1) := by decide +kernel
theorem dX5_dropped_15 : decode cX5_dropped 15 = .ok (.invokevirtual 114, 3) := by decide +kernel
theorem dX5_dropped_18 : decode cX5_dropped 18 = .ok (.iadd, 1) := by decide +kernel
theorem dX5_dropped_19 : decode cX5_dropped 19 = .ok (.ishl, 1) := by decide +kernel
theorem dX5_dropped_20 : decode cX5_dropped 20 = .ok (.iadd, 1) := by decide +kernel
theorem dX5_dropped_21 : decode cX5_dropped 21 = .ok (.ireturn, 1) := by decide +kernel
theorem dX5_decode_0 : decode cX5_decode 0 = .ok (.aload_n 0, 1) := by decide +kernel
theorem dX5_decode_1 : decode cX5_decode 1 = .ok (.getfield 33, 3) := by decide +kernel
theorem dX5_decode_4 : decode cX5_decode 4 = .ok (.iconst 0, 1) := by decide +kernel
theorem dX5_decode_5 : decode cX5_decode 5 = .ok (.iconst 0, 1) := by decide +kernel
theorem dX5_decode_6 : decode cX5_decode 6 = .ok (.iastore, 1) := by decide +kernel
theorem dX5_decode_7 : decode cX5_decode 7 = .ok (.aload_n 0, 1) := by decide +kernel
theorem dX5_decode_8 : decode cX5_decode 8 = .ok (.getfield 33, 3) := by decide +kernel
theorem dX5_decode_11 : decode cX5_decode 11 = .ok (.iconst 1, 1) := by decide +kernel
theorem dX5_decode_12 : decode cX5_decode 12 = .ok (.iconst 0, 1) := by decide +kernel
theorem dX5_decode_13 : decode cX5_decode 13 = .ok (.iastore, 1) := by decide +kernel
theorem dX5_decode_14 : decode cX5_decode 14 = .ok (.aload_n 0, 1) := by decide +kernel
theorem dX5_decode_15 : decode cX5_decode 15 = .ok (.iconst 0, 1) := by decide +kernel
theorem dX5_decode_16 : decode cX5_decode 16 = .ok (.putfield 117, 3) := by decide +kernel
theorem dX5_decode_19 : decode cX5_decode 19 = .ok (.iconst 0, 1) := by decide +kernel
theorem dX5_decode_20 : decode cX5_decode 20 = .ok (.istore_n 2, 1) := by decide +kernel
theorem dX5_decode_21 : decode cX5_decode 21 = .ok (.iload_n 2, 1) := by decide +kernel
theorem dX5_decode_22 : decode cX5_decode 22 = .ok (.aload_n 0, 1) := by decide +kernel
theorem dX5_decode_23 : decode cX5_decode 23 = .ok (.getfield 74, 3) := by decide +kernel
theorem dX5_decode_26 : decode cX5_decode 26 = .ok (.if_icmp .ge 75, 3) := by decide +kernel
theorem dX5_decode_29 : decode cX5_decode 29 = .ok (.aload_n 0, 1) := by decide +kernel
theorem dX5_decode_30 : decode cX5_decode 30 = .ok (.iload_n 1, 1) := by decide +kernel
theorem dX5_decode_31 : decode cX5_decode 31 = .ok (.iload_n 2, 1) := by decide +kernel
theorem dX5_decode_32 : decode cX5_decode 32 = .ok (.invokevirtual 114, 3) := by decide +kernel
theorem dX5_decode_35 : decode cX5_decode 35 = .ok (.istore_n 3, 1) := by decide +kernel
theorem dX5_decode_36 : decode cX5_decode 36 = .ok (.aload_n 0, 1) := by decide +kernel
theorem dX5_decode_37 : decode cX5_decode 37 = .ok (.iload_n 1, 1) := by decide +kernel
theorem dX5_decode_38 : decode cX5_decode 38 = .ok (.iload_n 2, 1) := by decide +kernel
theorem dX5_decode_39 : decode cX5_decode 39 = .ok (.invokevirtual 110, 3) := by decide +kernel
theorem dX5_decode_42 : decode cX5_decode 42 = .ok (.istore 4, 2) := by decide +kernel
theorem dX5_decode_44 : decode cX5_decode 44 = .ok (.iconst 0, 1) := by decide +kernel
theorem dX5_decode_45 : decode cX5_decode 45 = .ok (.istore 5, 2) := by decide +kernel
theorem dX5_decode_47 : decode cX5_decode 47 = .ok (.iload 5, 2) := by decide +kernel
theorem dX5_decode_49 : decode cX5_decode 49 = .ok (.iload_n 3, 1) := by decide +kernel
theorem dX5_decode_50 : decode cX5_decode 50 = .ok (.if_icmp .ge 35, 3) := by decide +kernel
theorem dX5_decode_53 : decode cX5_decode 53 = .ok (.aload_n 0, 1) := by decide +kernel
theorem dX5_decode_54 : decode cX5_decode 54 = .ok (.getfield 33, 3) := by decide +kernel
theorem dX5_decode_57 : decode cX5_decode 57 = .ok (.iload 4, 2) := by decide +kernel
theorem dX5_decode_59 : decode cX5_decode 59 = .ok (.iload 5, 2) := by decide +kernel
theorem dX5_decode_61 : decode cX5_decode 61 = .ok (.ishr, 1) := by decide +kernel
theorem dX5_decode_62 : decode cX5_decode 62 = .ok (.iconst 1, 1) := by decide +kernel
theorem dX5_decode_63 : decode cX5_decode 63 = .ok (.iand, 1) := by decide +kernel
theorem dX5_decode_64 : decode cX5_decode 64 = .ok (.dup2, 1) := by decide +kernel
theorem dX5_decode_65 : decode cX5_decode 65 = .ok (.iaload, 1) := by decide +kernel
theorem dX5_decode_66 : decode cX5_decode 66 = .ok (.iconst 1, 1) := by decide +kernel
theorem dX5_decode_67 : decode cX5_decode 67 = .ok (.aload_n 0, 1) := by decide +kernel
theorem dX5_decode_68 : decode cX5_decode 68 = .ok (.getfield 74, 3) := by decide +kernel
theorem dX5_decode_71 : decode cX5_decode 71 = .ok (.iload 5, 2) := by decide +kernel
theorem dX5_decode_73 : decode cX5_decode 73 = .ok (.imul, 1) := by decide +kernel
theorem dX5_decode_74 : decode cX5_decode 74 = .ok (.iload_n 2, 1) := by decide +kernel
theorem dX5_decode_75 : decode cX5_decode 75 = .ok (.iadd, 1) := by decide +kernel
theorem dX5_decode_76 : decode cX5_decode 76 = .ok (.ishl, 1) := by decide +kernel
theorem dX5_decode_77 : decode cX5_decode 77 = .ok (.ior, 1) := by decide +kernel
theorem dX5_decode_78 : decode cX5_decode 78 = .ok (.iastore, 1) := by decide +kernel
theorem dX5_decode_79 : decode cX5_decode 79 = .ok (.iinc 5 1, 3) := by decide +kernel
theorem dX5_decode_82 : decode cX5_decode 82 = .ok (.goto (-35), 3) := by decide +kernel
theorem dX5_decode_85 : decode cX5_decode 85 = .ok (.aload_n 0, 1) := by decide +kernel
theorem dX5_decode_86 : decode cX5_decode 86 = .ok (.dup, 1) := by decide +kernel
theorem dX5_decode_87 : decode cX5_decode 87 = .ok (.getfield 117, 3) := by decide +kernel
theorem dX5_decode_90 : decode cX5_decode 90 = .ok (.iload_n 3, 1) := by decide +kernel
theorem dX5_decode_91 : decode cX5_decode 91 = .ok (.iadd, 1) := by decide +kernel
theorem dX5_decode_92 : decode cX5_decode 92 = .ok (.putfield 117, 3) := by decide +kernel
theorem dX5_decode_95 : decode cX5_decode 95 = .ok (.iinc 2 1, 3) := by decide +kernel
theorem dX5_decode_98 : decode cX5_decode 98 = .ok (.goto (-77), 3) := by decide +kernel
theorem dX5_decode_101 : decode cX5_decode 101 = .ok (.return_, 1) := by decide +kernel
theorem dX5_has_0 : decode cX5_has 0 = .ok (.iconst 0, 1) := by decide +kernel
theorem dX5_has_1 : decode cX5_has 1 = .ok (.istore_n 2, 1) := by decide +kernel
theorem dX5_has_2 : decode cX5_has 2 = .ok (.iload_n 2, 1) := by decide +kernel
theorem dX5_has_3 : decode cX5_has 3 = .ok (.aload_n 0, 1) := by decide +kernel
theorem dX5_has_4 : decode cX5_has 4 = .ok (.getfield 71, 3) := by decide +kernel
theorem dX5_has_7 : decode cX5_has 7 = .ok (.if_icmp .ge 28, 3) := by decide +kernel
theorem dX5_has_10 : decode cX5_has 10 = .ok (.iload_n 1, 1) := by decide +kernel
theorem dX5_has_11 : decode cX5_has 11 = .ok (.aload_n 0, 1) := by decide +kernel
theorem dX5_has_12 : decode cX5_has 12 = .ok (.getfield 7, 3) := by decide +kernel
theorem dX5_has_15 : decode cX5_has 15 = .ok (.iload_n 2, 1) := by decide +kernel
theorem dX5_has_16 : decode cX5_has 16 = .ok (.iaload, 1) := by decide +kernel
theorem dX5_has_17 : decode cX5_has 17 = .ok (.iand, 1) := by decide +kernel
theorem dX5_has_18 : decode cX5_has 18 = .ok (.aload_n 0, 1) := by decide +kernel
theorem dX5_has_19 : decode cX5_has 19 = .ok (.getfield 7, 3) := by decide +kernel
theorem dX5_has_22 : decode cX5_has 22 = .ok (.iload_n 2, 1) := by decide +kernel
theorem dX5_has_23 : decode cX5_has 23 = .ok (.iaload, 1) := by decide +kernel
theorem dX5_has_24 : decode cX5_has 24 = .ok (.if_icmp .ne 5, 3) := by decide +kernel
theorem dX5_has_27 : decode cX5_has 27 = .ok (.iconst 1, 1) := by decide +kernel
theorem dX5_has_28 : decode cX5_has 28 = .ok (.ireturn, 1) := by decide +kernel
theorem dX5_has_29 : decode cX5_has 29 = .ok (.iinc 2 1, 3) := by decide +kernel
theorem dX5_has_32 : decode cX5_has 32 = .ok (.goto (-30), 3) := by decide +kernel
theorem dX5_has_35 : decode cX5_has 35 = .ok (.iconst 0, 1) := by decide +kernel
theorem dX5_has_36 : decode cX5_has 36 = .ok (.ireturn, 1) := by decide +kernel
theorem dX5_keys_0 : decode cX5_keys 0 = .ok (.iconst 1, 1) := by decide +kernel
theorem dX5_keys_1 : decode cX5_keys 1 = .ok (.aload_n 0, 1) := by decide +kernel
theorem dX5_keys_2 : decode cX5_keys 2 = .ok (.getfield 74, 3) := by decide +kernel
theorem dX5_keys_5 : decode cX5_keys 5 = .ok (.aload_n 0, 1) := by decide +kernel
theorem dX5_keys_6 : decode cX5_keys 6 = .ok (.getfield 77, 3) := by decide +kernel
theorem dX5_keys_9 : decode cX5_keys 9 = .ok (.iconst 1, 1) := by decide +kernel
theorem dX5_keys_10 : decode cX5_keys 10 = .ok (.iadd, 1) := by decide +kernel
theorem dX5_keys_11 : decode cX5_keys 11 = .ok (.imul, 1) := by decide +kernel
theorem dX5_keys_12 : decode cX5_keys 12 = .ok (.ishl, 1) := by decide +kernel
theorem dX5_keys_13 : decode cX5_keys 13 = .ok (.ireturn, 1) := by decide +kernel
theorem dX5_goUp_0 : decode cX5_goUp 0 = .ok (.aload_n 0, 1) := by decide +kernel
theorem dX5_goUp_1 : decode cX5_goUp 1 = .ok (.invokevirtual 120, 3) := by decide +kernel
theorem dX5_goUp_4 : decode cX5_goUp 4 = .ok (.istore_n 1, 1) := by decide +kernel
theorem dX5_goUp_5 : decode cX5_goUp 5 = .ok (.iconst 0, 1) := by decide +kernel
theorem dX5_goUp_6 : decode cX5_goUp 6 = .ok (.istore_n 2, 1) := by decide +kernel
theorem dX5_goUp_7 : decode cX5_goUp 7 = .ok (.iload_n 2, 1) := by decide +kernel
theorem dX5_goUp_8 : decode cX5_goUp 8 = .ok (.iload_n 1, 1) := by decide +kernel
theorem dX5_goUp_9 : decode cX5_goUp 9 = .ok (.if_icmp .ge 17, 3) := by decide +kernel
theorem dX5_goUp_12 : decode cX5_goUp 12 = .ok (.aload_n 0, 1) := by decide +kernel
theorem dX5_goUp_13 : decode cX5_goUp 13 = .ok (.getfield 14, 3) := by decide +kernel
theorem dX5_goUp_16 : decode cX5_goUp 16 = .ok (.iload_n 2, 1) := by decide +kernel
theorem dX5_goUp_17 : decode cX5_goUp 17 = .ok (.bipush (-128), 2) := by decide +kernel
theorem dX5_goUp_19 : decode cX5_goUp 19 = .ok (.bastore, 1) := by decide +kernel
theorem dX5_goUp_20 : decode cX5_goUp 20 = .ok (.iinc 2 1, 3) := by decide +kernel
theorem dX5_goUp_23 : decode cX5_goUp 23 = .ok (.goto (-16), 3) := by decide +kernel
theorem dX5_goUp_26 : decode cX5_goUp 26 = .ok (.aload_n 0, 1) := by decide +kernel
theorem dX5_goUp_27 : decode cX5_goUp 27 = .ok (.getfield 14, 3) := by decide +kernel
theorem dX5_goUp_30 : decode cX5_goUp 30 = .ok (.aload_n 0, 1) := by decide +kernel
theorem dX5_goUp_31 : decode cX5_goUp 31 = .ok (.invokevirtual 124, 3) := by decide +kernel
theorem dX5_goUp_34 : decode cX5_goUp 34 = .ok (.iconst 0, 1) := by decide +kernel
theorem dX5_goUp_35 : decode cX5_goUp 35 = .ok (.bastore, 1) := by decide +kernel
theorem dX5_goUp_36 : decode cX5_goUp 36 = .ok (.iconst 0, 1) := by decide +kernel
theorem dX5_goUp_37 : decode cX5_goUp 37 = .ok (.istore_n 2, 1) := by decide +kernel
theorem dX5_goUp_38 : decode cX5_goUp 38 = .ok (.iload_n 2, 1) := by decide +kernel
theorem dX5_goUp_39 : decode cX5_goUp 39 = .ok (.bipush 17, 2) := by decide +kernel
theorem dX5_goUp_41 : decode cX5_goUp 41 = .ok (.if_icmp .ge 44, 3) := by decide +kernel
theorem dX5_goUp_44 : decode cX5_goUp 44 = .ok (.aload_n 0, 1) := by decide +kernel
theorem dX5_goUp_45 : decode cX5_goUp 45 = .ok (.getfield 18, 3) := by decide +kernel
theorem dX5_goUp_48 : decode cX5_goUp 48 = .ok (.iload_n 2, 1) := by decide +kernel
theorem dX5_goUp_49 : decode cX5_goUp 49 = .ok (.iconst 0, 1) := by decide +kernel
theorem dX5_goUp_50 : decode cX5_goUp 50 = .ok (.iastore, 1) := by decide +kernel
theorem dX5_goUp_51 : decode cX5_goUp 51 = .ok (.aload_n 0, 1) := by decide +kernel
theorem dX5_goUp_52 : decode cX5_goUp 52 = .ok (.getfield 21, 3) := by decide +kernel
theorem dX5_goUp_55 : decode cX5_goUp 55 = .ok (.iload_n 2, 1) := by decide +kernel
theorem dX5_goUp_56 : decode cX5_goUp 56 = .ok (.iconst 0, 1) := by decide +kernel
theorem dX5_goUp_57 : decode cX5_goUp 57 = .ok (.iastore, 1) := by decide +kernel
theorem dX5_goUp_58 : decode cX5_goUp 58 = .ok (.aload_n 0, 1) := by decide +kernel
theorem dX5_goUp_59 : decode cX5_goUp 59 = .ok (.getfield 24, 3) := by decide +kernel
theorem dX5_goUp_62 : decode cX5_goUp 62 = .ok (.iload_n 2, 1) := by decide +kernel
theorem dX5_goUp_63 : decode cX5_goUp 63 = .ok (.iconst 0, 1) := by decide +kernel
theorem dX5_goUp_64 : decode cX5_goUp 64 = .ok (.iastore, 1) := by decide +kernel
theorem dX5_goUp_65 : decode cX5_goUp 65 = .ok (.aload_n 0, 1) := by decide +kernel
theorem dX5_goUp_66 : decode cX5_goUp 66 = .ok (.getfield 27, 3) := by decide +kernel
theorem dX5_goUp_69 : decode cX5_goUp 69 = .ok (.iload_n 2, 1) := by decide +kernel
theorem dX5_goUp_70 : decode cX5_goUp 70 = .ok (.iconst 0, 1) := by decide +kernel
theorem dX5_goUp_71 : decode cX5_goUp 71 = .ok (.iastore, 1) := by decide +kernel
theorem dX5_goUp_72 : decode cX5_goUp 72 = .ok (.aload_n 0, 1) := by decide +kernel
theorem dX5_goUp_73 : decode cX5_goUp 73 = .ok (.getfield 30, 3) := by decide +kernel
theorem dX5_goUp_76 : decode cX5_goUp 76 = .ok (.iload_n 2, 1) := by decide +kernel
theorem dX5_goUp_77 : decode cX5_goUp 77 = .ok (.iconst 0, 1) := by decide +kernel
theorem dX5_goUp_78 : decode cX5_goUp 78 = .ok (.iastore, 1) := by decide +kernel
theorem dX5_goUp_79 : decode cX5_goUp 79 = .ok (.iinc 2 1, 3) := by decide +kernel
theorem dX5_goUp_82 : decode cX5_goUp 82 = .ok (.goto (-44), 3) := by decide +kernel
theorem dX5_goUp_85 : decode cX5_goUp 85 = .ok (.iconst 0, 1) := by decide +kernel
theorem dX5_goUp_86 : decode cX5_goUp 86 = .ok (.istore_n 2, 1) := by decide +kernel
theorem dX5_goUp_87 : decode cX5_goUp 87 = .ok (.iload_n 2, 1) := by decide +kernel
theorem dX5_goUp_88 : decode cX5_goUp 88 = .ok (.iload_n 1, 1) := by decide +kernel
theorem dX5_goUp_89 : decode cX5_goUp 89 = .ok (.if_icmp .ge 164, 3) := by decide +kernel
theorem dX5_goUp_92 : decode cX5_goUp 92 = .ok (.aload_n 0, 1) := by decide +kernel
theorem dX5_goUp_93 : decode cX5_goUp 93 = .ok (.getfield 14, 3) := by decide +kernel
theorem dX5_goUp_96 : decode cX5_goUp 96 = .ok (.iload_n 2, 1) := by decide +kernel
theorem dX5_goUp_97 : decode cX5_goUp 97 = .ok (.baload, 1) := by decide +kernel
theorem dX5_goUp_98 : decode cX5_goUp 98 = .ok (.bipush (-128), 2) := by decide +kernel
theorem dX5_goUp_100 : decode cX5_goUp 100 = .ok (.if_icmp .eq 147, 3) := by decide +kernel
theorem dX5_goUp_103 : decode cX5_goUp 103 = .ok (.aload_n 0, 1) := by decide +kernel
theorem dX5_goUp_104 : decode cX5_goUp 104 = .ok (.iload_n 2, 1) := by decide +kernel
theorem dX5_goUp_105 : decode cX5_goUp 105 = .ok (.invokevirtual 127, 3) := by decide +kernel
theorem dX5_goUp_108 : decode cX5_goUp 108 = .ok (.aload_n 0, 1) := by decide +kernel
theorem dX5_goUp_109 : decode cX5_goUp 109 = .ok (.getfield 117, 3) := by decide +kernel
theorem dX5_goUp_112 : decode cX5_goUp 112 = .ok (.iconst 2, 1) := by decide +kernel
theorem dX5_goUp_113 : decode cX5_goUp 113 = .ok (.irem, 1) := by decide +kernel
theorem dX5_goUp_114 : decode cX5_goUp 114 = .ok (.istore_n 3, 1) := by decide +kernel
theorem dX5_goUp_115 : decode cX5_goUp 115 = .ok (.aload_n 0, 1) := by decide +kernel
theorem dX5_goUp_116 : decode cX5_goUp 116 = .ok (.getfield 18, 3) := by decide +kernel
theorem dX5_goUp_119 : decode cX5_goUp 119 = .ok (.aload_n 0, 1) := by decide +kernel
theorem dX5_goUp_120 : decode cX5_goUp 120 = .ok (.getfield 117, 3) := by decide +kernel
theorem dX5_goUp_123 : decode cX5_goUp 123 = .ok (.dup2, 1) := by decide +kernel
theorem dX5_goUp_124 : decode cX5_goUp 124 = .ok (.iaload, 1) := by decide +kernel
theorem dX5_goUp_125 : decode cX5_goUp 125 = .ok (.iconst 1, 1) := by decide +kernel
theorem dX5_goUp_126 : decode cX5_goUp 126 = .ok (.iadd, 1) := by decide +kernel
theorem dX5_goUp_127 : decode cX5_goUp 127 = .ok (.iastore, 1) := by decide +kernel
theorem dX5_goUp_128 : decode cX5_goUp 128 = .ok (.aload_n 0, 1) := by decide +kernel
theorem dX5_goUp_129 : decode cX5_goUp 129 = .ok (.getfield 117, 3) := by decide +kernel
theorem dX5_goUp_132 : decode cX5_goUp 132 = .ok (.ifCond .le 42, 3) := by decide +kernel
theorem dX5_goUp_135 : decode cX5_goUp 135 = .ok (.aload_n 0, 1) := by decide +kernel
theorem dX5_goUp_136 : decode cX5_goUp 136 = .ok (.aload_n 0, 1) := by decide +kernel
theorem dX5_goUp_137 : decode cX5_goUp 137 = .ok (.getfield 33, 3) := by decide +kernel
theorem dX5_goUp_140 : decode cX5_goUp 140 = .ok (.iconst 1, 1) := by decide +kernel
theorem dX5_goUp_141 : decode cX5_goUp 141 = .ok (.iload_n 3, 1) := by decide +kernel
theorem dX5_goUp_142 : decode cX5_goUp 142 = .ok (.isub, 1) := by decide +kernel
theorem dX5_goUp_143 : decode cX5_goUp 143 = .ok (.iaload, 1) := by decide +kernel
theorem dX5_goUp_144 : decode cX5_goUp 144 = .ok (.invokevirtual 130, 3) := by decide +kernel
theorem dX5_goUp_147 : decode cX5_goUp 147 = .ok (.ifCond .eq 27, 3) := by decide +kernel
theorem dX5_goUp_150 : decode cX5_goUp 150 = .ok (.aload_n 0, 1) := by decide +kernel
theorem dX5_goUp_151 : decode cX5_goUp 151 = .ok (.getfield 21, 3) := by decide +kernel
theorem dX5_goUp_154 : decode cX5_goUp 154 = .ok (.aload_n 0, 1) := by decide +kernel
theorem dX5_goUp_155 : decode cX5_goUp 155 = .ok (.getfield 117, 3) := by decide +kernel
theorem dX5_goUp_158 : decode cX5_goUp 158 = .ok (.dup2, 1) := by decide +kernel
theorem dX5_goUp_159 : decode cX5_goUp 159 = .ok (.iaload, 1) := by decide +kernel
theorem dX5_goUp_160 : decode cX5_goUp 160 = .ok (.iconst 1, 1) := by decide +kernel
theorem dX5_goUp_161 : decode cX5_goUp 161 = .ok (.iadd, 1) := by decide +kernel
theorem dX5_goUp_162 : decode cX5_goUp 162 = .ok (.iastore, 1) := by decide +kernel
theorem dX5_goUp_163 : decode cX5_goUp 163 = .ok (.aload_n 0, 1) := by decide +kernel
theorem dX5_goUp_164 : decode cX5_goUp 164 = .ok (.getfield 14, 3) := by decide +kernel
theorem dX5_goUp_167 : decode cX5_goUp 167 = .ok (.iload_n 2, 1) := by decide +kernel
theorem dX5_goUp_168 : decode cX5_goUp 168 = .ok (.bipush 127, 2) := by decide +kernel
theorem dX5_goUp_170 : decode cX5_goUp 170 = .ok (.bastore, 1) := by decide +kernel
theorem dX5_goUp_171 : decode cX5_goUp 171 = .ok (.goto 76, 3) := by decide +kernel
theorem dX5_goUp_174 : decode cX5_goUp 174 = .ok (.aload_n 0, 1) := by decide +kernel
theorem dX5_goUp_175 : decode cX5_goUp 175 = .ok (.getfield 117, 3) := by decide +kernel
theorem dX5_goUp_178 : decode cX5_goUp 178 = .ok (.aload_n 0, 1) := by decide +kernel
theorem dX5_goUp_179 : decode cX5_goUp 179 = .ok (.getfield 74, 3) := by decide +kernel
theorem dX5_goUp_182 : decode cX5_goUp 182 = .ok (.aload_n 0, 1) := by decide +kernel
theorem dX5_goUp_183 : decode cX5_goUp 183 = .ok (.getfield 77, 3) := by decide +kernel
theorem dX5_goUp_186 : decode cX5_goUp 186 = .ok (.imul, 1) := by decide +kernel
theorem dX5_goUp_187 : decode cX5_goUp 187 = .ok (.if_icmp .ne 14, 3) := by decide +kernel
theorem dX5_goUp_190 : decode cX5_goUp 190 = .ok (.aload_n 0, 1) := by decide +kernel
theorem dX5_goUp_191 : decode cX5_goUp 191 = .ok (.getfield 14, 3) := by decide +kernel
theorem dX5_goUp_194 : decode cX5_goUp 194 = .ok (.iload_n 2, 1) := by decide +kernel
theorem dX5_goUp_195 : decode cX5_goUp 195 = .ok (.bipush 126, 2) := by decide +kernel
theorem dX5_goUp_197 : decode cX5_goUp 197 = .ok (.bastore, 1) := by decide +kernel
theorem dX5_goUp_198 : decode cX5_goUp 198 = .ok (.goto 49, 3) := by decide +kernel
theorem dX5_goUp_201 : decode cX5_goUp 201 = .ok (.iconst 0, 1) := by decide +kernel
theorem dX5_goUp_202 : decode cX5_goUp 202 = .ok (.istore 4, 2) := by decide +kernel
theorem dX5_goUp_204 : decode cX5_goUp 204 = .ok (.iload 4, 2) := by decide +kernel
theorem dX5_goUp_206 : decode cX5_goUp 206 = .ok (.aload_n 0, 1) := by decide +kernel
theorem dX5_goUp_207 : decode cX5_goUp 207 = .ok (.getfield 74, 3) := by decide +kernel
theorem dX5_goUp_210 : decode cX5_goUp 210 = .ok (.if_icmp .ge 37, 3) := by decide +kernel
theorem dX5_goUp_213 : decode cX5_goUp 213 = .ok (.aload_n 0, 1) := by decide +kernel
theorem dX5_goUp_214 : decode cX5_goUp 214 = .ok (.iload_n 2, 1) := by decide +kernel
theorem dX5_goUp_215 : decode cX5_goUp 215 = .ok (.iload 4, 2) := by decide +kernel
theorem dX5_goUp_217 : decode cX5_goUp 217 = .ok (.invokevirtual 114, 3) := by decide +kernel
theorem dX5_goUp_220 : decode cX5_goUp 220 = .ok (.aload_n 0, 1) := by decide +kernel
theorem dX5_goUp_221 : decode cX5_goUp 221 = .ok (.getfield 77, 3) := by decide +kernel
theorem dX5_goUp_224 : decode cX5_goUp 224 = .ok (.if_icmp .ge 17, 3) := by decide +kernel
theorem dX5_goUp_227 : decode cX5_goUp 227 = .ok (.aload_n 0, 1) := by decide +kernel
theorem dX5_goUp_228 : decode cX5_goUp 228 = .ok (.getfield 14, 3) := by decide +kernel
theorem dX5_goUp_231 : decode cX5_goUp 231 = .ok (.aload_n 0, 1) := by decide +kernel
theorem dX5_goUp_232 : decode cX5_goUp 232 = .ok (.iload_n 2, 1) := by decide +kernel
theorem dX5_goUp_233 : decode cX5_goUp 233 = .ok (.iload 4, 2) := by decide +kernel
theorem dX5_goUp_235 : decode cX5_goUp 235 = .ok (.iload_n 3, 1) := by decide +kernel
theorem dX5_goUp_236 : decode cX5_goUp 236 = .ok (.invokevirtual 134, 3) := by decide +kernel
theorem dX5_goUp_239 : decode cX5_goUp 239 = .ok (.iconst 0, 1) := by decide +kernel
theorem dX5_goUp_240 : decode cX5_goUp 240 = .ok (.bastore, 1) := by decide +kernel
theorem dX5_goUp_241 : decode cX5_goUp 241 = .ok (.iinc 4 1, 3) := by decide +kernel
theorem dX5_goUp_244 : decode cX5_goUp 244 = .ok (.goto (-40), 3) := by decide +kernel
theorem dX5_goUp_247 : decode cX5_goUp 247 = .ok (.iinc 2 1, 3) := by decide +kernel
theorem dX5_goUp_250 : decode cX5_goUp 250 = .ok (.goto (-163), 3) := by decide +kernel
theorem dX5_goUp_253 : decode cX5_goUp 253 = .ok (.return_, 1) := by decide +kernel
theorem dX5_worthBy_0 : decode cX5_worthBy 0 = .ok (.aload_n 0, 1) := by decide +kernel
theorem dX5_worthBy_1 : decode cX5_worthBy 1 = .ok (.getfield 14, 3) := by decide +kernel
theorem dX5_worthBy_4 : decode cX5_worthBy 4 = .ok (.aload_n 0, 1) := by decide +kernel
theorem dX5_worthBy_5 : decode cX5_worthBy 5 = .ok (.iload_n 1, 1) := by decide +kernel
theorem dX5_worthBy_6 : decode cX5_worthBy 6 = .ok (.iload_n 2, 1) := by decide +kernel
theorem dX5_worthBy_7 : decode cX5_worthBy 7 = .ok (.iload_n 3, 1) := by decide +kernel
theorem dX5_worthBy_8 : decode cX5_worthBy 8 = .ok (.invokevirtual 134, 3) := by decide +kernel
theorem dX5_worthBy_11 : decode cX5_worthBy 11 = .ok (.baload, 1) := by decide +kernel
theorem dX5_worthBy_12 : decode cX5_worthBy 12 = .ok (.istore 4, 2) := by decide +kernel
theorem dX5_worthBy_14 : decode cX5_worthBy 14 = .ok (.iload 4, 2) := by decide +kernel
theorem dX5_worthBy_16 : decode cX5_worthBy 16 = .ok (.bipush 127, 2) := by decide +kernel
theorem dX5_worthBy_18 : decode cX5_worthBy 18 = .ok (.if_icmp .ne 6, 3) := by decide +kernel
theorem dX5_worthBy_21 : decode cX5_worthBy 21 = .ok (.bipush 99, 2) := by decide +kernel
theorem dX5_worthBy_23 : decode cX5_worthBy 23 = .ok (.ireturn, 1) := by decide +kernel
theorem dX5_worthBy_24 : decode cX5_worthBy 24 = .ok (.iload 4, 2) := by decide +kernel
theorem dX5_worthBy_26 : decode cX5_worthBy 26 = .ok (.bipush 126, 2) := by decide +kernel
theorem dX5_worthBy_28 : decode cX5_worthBy 28 = .ok (.if_icmp .ne 5, 3) := by decide +kernel
theorem dX5_worthBy_31 : decode cX5_worthBy 31 = .ok (.iconst 0, 1) := by decide +kernel
theorem dX5_worthBy_32 : decode cX5_worthBy 32 = .ok (.ireturn, 1) := by decide +kernel
theorem dX5_worthBy_33 : decode cX5_worthBy 33 = .ok (.iload 4, 2) := by decide +kernel
theorem dX5_worthBy_35 : decode cX5_worthBy 35 = .ok (.ifCond .le 10, 3) := by decide +kernel
theorem dX5_worthBy_38 : decode cX5_worthBy 38 = .ok (.iconst 1, 1) := by decide +kernel
theorem dX5_worthBy_39 : decode cX5_worthBy 39 = .ok (.iload 4, 2) := by decide +kernel
theorem dX5_worthBy_41 : decode cX5_worthBy 41 = .ok (.isub, 1) := by decide +kernel
theorem dX5_worthBy_42 : decode cX5_worthBy 42 = .ok (.goto 16, 3) := by decide +kernel
theorem dX5_worthBy_45 : decode cX5_worthBy 45 = .ok (.iload 4, 2) := by decide +kernel
theorem dX5_worthBy_47 : decode cX5_worthBy 47 = .ok (.ifCond .ge 10, 3) := by decide +kernel
theorem dX5_worthBy_50 : decode cX5_worthBy 50 = .ok (.iconst (-1), 1) := by decide +kernel
theorem dX5_worthBy_51 : decode cX5_worthBy 51 = .ok (.iload 4, 2) := by decide +kernel
theorem dX5_worthBy_53 : decode cX5_worthBy 53 = .ok (.isub, 1) := by decide +kernel
theorem dX5_worthBy_54 : decode cX5_worthBy 54 = .ok (.goto 4, 3) := by decide +kernel
theorem dX5_worthBy_57 : decode cX5_worthBy 57 = .ok (.iconst 0, 1) := by decide +kernel
theorem dX5_worthBy_58 : decode cX5_worthBy 58 = .ok (.ireturn, 1) := by decide +kernel
theorem dX5_greatest_0 : decode cX5_greatest 0 = .ok (.sipush (-1000), 3) := by decide +kernel
theorem dX5_greatest_3 : decode cX5_greatest 3 = .ok (.istore_n 3, 1) := by decide +kernel
theorem dX5_greatest_4 : decode cX5_greatest 4 = .ok (.iconst 0, 1) := by decide +kernel
theorem dX5_greatest_5 : decode cX5_greatest 5 = .ok (.istore 4, 2) := by decide +kernel
theorem dX5_greatest_7 : decode cX5_greatest 7 = .ok (.iload 4, 2) := by decide +kernel
theorem dX5_greatest_9 : decode cX5_greatest 9 = .ok (.aload_n 0, 1) := by decide +kernel
theorem dX5_greatest_10 : decode cX5_greatest 10 = .ok (.getfield 74, 3) := by decide +kernel
theorem dX5_greatest_13 : decode cX5_greatest 13 = .ok (.if_icmp .ge 46, 3) := by decide +kernel
theorem dX5_greatest_16 : decode cX5_greatest 16 = .ok (.aload_n 0, 1) := by decide +kernel
theorem dX5_greatest_17 : decode cX5_greatest 17 = .ok (.iload_n 1, 1) := by decide +kernel
theorem dX5_greatest_18 : decode cX5_greatest 18 = .ok (.iload 4, 2) := by decide +kernel
theorem dX5_greatest_20 : decode cX5_greatest 20 = .ok (.invokevirtual 114, 3) := by decide +kernel
theorem dX5_greatest_23 : decode cX5_greatest 23 = .ok (.aload_n 0, 1) := by decide +kernel
theorem dX5_greatest_24 : decode cX5_greatest 24 = .ok (.getfield 77, 3) := by decide +kernel
theorem dX5_greatest_27 : decode cX5_greatest 27 = .ok (.if_icmp .ge 26, 3) := by decide +kernel
theorem dX5_greatest_30 : decode cX5_greatest 30 = .ok (.aload_n 0, 1) := by decide +kernel
theorem dX5_greatest_31 : decode cX5_greatest 31 = .ok (.iload_n 1, 1) := by decide +kernel
theorem dX5_greatest_32 : decode cX5_greatest 32 = .ok (.iload 4, 2) := by decide +kernel
theorem dX5_greatest_34 : decode cX5_greatest 34 = .ok (.iload_n 2, 1) := by decide +kernel
theorem dX5_greatest_35 : decode cX5_greatest 35 = .ok (.invokevirtual 138, 3) := by decide +kernel
theorem dX5_greatest_38 : decode cX5_greatest 38 = .ok (.istore 5, 2) := by decide +kernel
theorem dX5_greatest_40 : decode cX5_greatest 40 = .ok (.iload 5, 2) := by decide +kernel
theorem dX5_greatest_42 : decode cX5_greatest 42 = .ok (.iload_n 3, 1) := by decide +kernel
theorem dX5_greatest_43 : decode cX5_greatest 43 = .ok (.if_icmp .le 8, 3) := by decide +kernel
theorem dX5_greatest_46 : decode cX5_greatest 46 = .ok (.iload 5, 2) := by decide +kernel
theorem dX5_greatest_48 : decode cX5_greatest 48 = .ok (.goto 4, 3) := by decide +kernel
theorem dX5_greatest_51 : decode cX5_greatest 51 = .ok (.iload_n 3, 1) := by decide +kernel
theorem dX5_greatest_52 : decode cX5_greatest 52 = .ok (.istore_n 3, 1) := by decide +kernel
theorem dX5_greatest_53 : decode cX5_greatest 53 = .ok (.iinc 4 1, 3) := by decide +kernel
theorem dX5_greatest_56 : decode cX5_greatest 56 = .ok (.goto (-49), 3) := by decide +kernel
theorem dX5_greatest_59 : decode cX5_greatest 59 = .ok (.iload_n 3, 1) := by decide +kernel
theorem dX5_greatest_60 : decode cX5_greatest 60 = .ok (.ireturn, 1) := by decide +kernel
theorem dX5_goDown_0 : decode cX5_goDown 0 = .ok (.aload_n 0, 1) := by decide +kernel
theorem dX5_goDown_1 : decode cX5_goDown 1 = .ok (.invokevirtual 120, 3) := by decide +kernel
theorem dX5_goDown_4 : decode cX5_goDown 4 = .ok (.iconst 1, 1) := by decide +kernel
theorem dX5_goDown_5 : decode cX5_goDown 5 = .ok (.isub, 1) := by decide +kernel
theorem dX5_goDown_6 : decode cX5_goDown 6 = .ok (.istore_n 1, 1) := by decide +kernel
theorem dX5_goDown_7 : decode cX5_goDown 7 = .ok (.iload_n 1, 1) := by decide +kernel
theorem dX5_goDown_8 : decode cX5_goDown 8 = .ok (.ifCond .lt 130, 3) := by decide +kernel
theorem dX5_goDown_11 : decode cX5_goDown 11 = .ok (.aload_n 0, 1) := by decide +kernel
theorem dX5_goDown_12 : decode cX5_goDown 12 = .ok (.getfield 14, 3) := by decide +kernel
theorem dX5_goDown_15 : decode cX5_goDown 15 = .ok (.iload_n 1, 1) := by decide +kernel
theorem dX5_goDown_16 : decode cX5_goDown 16 = .ok (.baload, 1) := by decide +kernel
theorem dX5_goDown_17 : decode cX5_goDown 17 = .ok (.bipush (-128), 2) := by decide +kernel
theorem dX5_goDown_19 : decode cX5_goDown 19 = .ok (.if_icmp .eq 113, 3) := by decide +kernel
theorem dX5_goDown_22 : decode cX5_goDown 22 = .ok (.aload_n 0, 1) := by decide +kernel
theorem dX5_goDown_23 : decode cX5_goDown 23 = .ok (.getfield 14, 3) := by decide +kernel
theorem dX5_goDown_26 : decode cX5_goDown 26 = .ok (.iload_n 1, 1) := by decide +kernel
theorem dX5_goDown_27 : decode cX5_goDown 27 = .ok (.baload, 1) := by decide +kernel
theorem dX5_goDown_28 : decode cX5_goDown 28 = .ok (.bipush 127, 2) := by decide +kernel
theorem dX5_goDown_30 : decode cX5_goDown 30 = .ok (.if_icmp .eq 102, 3) := by decide +kernel
theorem dX5_goDown_33 : decode cX5_goDown 33 = .ok (.aload_n 0, 1) := by decide +kernel
theorem dX5_goDown_34 : decode cX5_goDown 34 = .ok (.getfield 14, 3) := by decide +kernel
theorem dX5_goDown_37 : decode cX5_goDown 37 = .ok (.iload_n 1, 1) := by decide +kernel
theorem dX5_goDown_38 : decode cX5_goDown 38 = .ok (.baload, 1) := by decide +kernel
theorem dX5_goDown_39 : decode cX5_goDown 39 = .ok (.bipush 126, 2) := by decide +kernel
theorem dX5_goDown_41 : decode cX5_goDown 41 = .ok (.if_icmp .eq 91, 3) := by decide +kernel
theorem dX5_goDown_44 : decode cX5_goDown 44 = .ok (.iconst 0, 1) := by decide +kernel
theorem dX5_goDown_45 : decode cX5_goDown 45 = .ok (.istore_n 2, 1) := by decide +kernel
theorem dX5_goDown_46 : decode cX5_goDown 46 = .ok (.iconst 0, 1) := by decide +kernel
theorem dX5_goDown_47 : decode cX5_goDown 47 = .ok (.istore_n 3, 1) := by decide +kernel
theorem dX5_goDown_48 : decode cX5_goDown 48 = .ok (.iload_n 3, 1) := by decide +kernel
theorem dX5_goDown_49 : decode cX5_goDown 49 = .ok (.aload_n 0, 1) := by decide +kernel
theorem dX5_goDown_50 : decode cX5_goDown 50 = .ok (.getfield 74, 3) := by decide +kernel
theorem dX5_goDown_53 : decode cX5_goDown 53 = .ok (.if_icmp .ge 18, 3) := by decide +kernel
theorem dX5_goDown_56 : decode cX5_goDown 56 = .ok (.iload_n 2, 1) := by decide +kernel
theorem dX5_goDown_57 : decode cX5_goDown 57 = .ok (.aload_n 0, 1) := by decide +kernel
theorem dX5_goDown_58 : decode cX5_goDown 58 = .ok (.iload_n 1, 1) := by decide +kernel
theorem dX5_goDown_59 : decode cX5_goDown 59 = .ok (.iload_n 3, 1) := by decide +kernel
theorem dX5_goDown_60 : decode cX5_goDown 60 = .ok (.invokevirtual 114, 3) := by decide +kernel
theorem dX5_goDown_63 : decode cX5_goDown 63 = .ok (.iadd, 1) := by decide +kernel
theorem dX5_goDown_64 : decode cX5_goDown 64 = .ok (.istore_n 2, 1) := by decide +kernel
theorem dX5_goDown_65 : decode cX5_goDown 65 = .ok (.iinc 3 1, 3) := by decide +kernel
theorem dX5_goDown_68 : decode cX5_goDown 68 = .ok (.goto (-20), 3) := by decide +kernel
theorem dX5_goDown_71 : decode cX5_goDown 71 = .ok (.aload_n 0, 1) := by decide +kernel
theorem dX5_goDown_72 : decode cX5_goDown 72 = .ok (.iload_n 1, 1) := by decide +kernel
theorem dX5_goDown_73 : decode cX5_goDown 73 = .ok (.iload_n 2, 1) := by decide +kernel
theorem dX5_goDown_74 : decode cX5_goDown 74 = .ok (.iconst 2, 1) := by decide +kernel
theorem dX5_goDown_75 : decode cX5_goDown 75 = .ok (.irem, 1) := by decide +kernel
theorem dX5_goDown_76 : decode cX5_goDown 76 = .ok (.invokevirtual 141, 3) := by decide +kernel
theorem dX5_goDown_79 : decode cX5_goDown 79 = .ok (.istore_n 3, 1) := by decide +kernel
theorem dX5_goDown_80 : decode cX5_goDown 80 = .ok (.aload_n 0, 1) := by decide +kernel
theorem dX5_goDown_81 : decode cX5_goDown 81 = .ok (.getfield 14, 3) := by decide +kernel
theorem dX5_goDown_84 : decode cX5_goDown 84 = .ok (.iload_n 1, 1) := by decide +kernel
theorem dX5_goDown_85 : decode cX5_goDown 85 = .ok (.iload_n 3, 1) := by decide +kernel
theorem dX5_goDown_86 : decode cX5_goDown 86 = .ok (.i2b, 1) := by decide +kernel
theorem dX5_goDown_87 : decode cX5_goDown 87 = .ok (.bastore, 1) := by decide +kernel
theorem dX5_goDown_88 : decode cX5_goDown 88 = .ok (.iload_n 3, 1) := by decide +kernel
theorem dX5_goDown_89 : decode cX5_goDown 89 = .ok (.ifCond .le 16, 3) := by decide +kernel
theorem dX5_goDown_92 : decode cX5_goDown 92 = .ok (.aload_n 0, 1) := by decide +kernel
theorem dX5_goDown_93 : decode cX5_goDown 93 = .ok (.getfield 24, 3) := by decide +kernel
theorem dX5_goDown_96 : decode cX5_goDown 96 = .ok (.iload_n 2, 1) := by decide +kernel
theorem dX5_goDown_97 : decode cX5_goDown 97 = .ok (.dup2, 1) := by decide +kernel
theorem dX5_goDown_98 : decode cX5_goDown 98 = .ok (.iaload, 1) := by decide +kernel
theorem dX5_goDown_99 : decode cX5_goDown 99 = .ok (.iconst 1, 1) := by decide +kernel
theorem dX5_goDown_100 : decode cX5_goDown 100 = .ok (.iadd, 1) := by decide +kernel
theorem dX5_goDown_101 : decode cX5_goDown 101 = .ok (.iastore, 1) := by decide +kernel
theorem dX5_goDown_102 : decode cX5_goDown 102 = .ok (.goto 30, 3) := by decide +kernel
theorem dX5_goDown_105 : decode cX5_goDown 105 = .ok (.iload_n 3, 1) := by decide +kernel
theorem dX5_goDown_106 : decode cX5_goDown 106 = .ok (.ifCond .ne 16, 3) := by decide +kernel
theorem dX5_goDown_109 : decode cX5_goDown 109 = .ok (.aload_n 0, 1) := by decide +kernel
theorem dX5_goDown_110 : decode cX5_goDown 110 = .ok (.getfield 27, 3) := by decide +kernel
theorem dX5_goDown_113 : decode cX5_goDown 113 = .ok (.iload_n 2, 1) := by decide +kernel
theorem dX5_goDown_114 : decode cX5_goDown 114 = .ok (.dup2, 1) := by decide +kernel
theorem dX5_goDown_115 : decode cX5_goDown 115 = .ok (.iaload, 1) := by decide +kernel
theorem dX5_goDown_116 : decode cX5_goDown 116 = .ok (.iconst 1, 1) := by decide +kernel
theorem dX5_goDown_117 : decode cX5_goDown 117 = .ok (.iadd, 1) := by decide +kernel
theorem dX5_goDown_118 : decode cX5_goDown 118 = .ok (.iastore, 1) := by decide +kernel
theorem dX5_goDown_119 : decode cX5_goDown 119 = .ok (.goto 13, 3) := by decide +kernel
theorem dX5_goDown_122 : decode cX5_goDown 122 = .ok (.aload_n 0, 1) := by decide +kernel
theorem dX5_goDown_123 : decode cX5_goDown 123 = .ok (.getfield 30, 3) := by decide +kernel
theorem dX5_goDown_126 : decode cX5_goDown 126 = .ok (.iload_n 2, 1) := by decide +kernel
theorem dX5_goDown_127 : decode cX5_goDown 127 = .ok (.dup2, 1) := by decide +kernel
theorem dX5_goDown_128 : decode cX5_goDown 128 = .ok (.iaload, 1) := by decide +kernel
theorem dX5_goDown_129 : decode cX5_goDown 129 = .ok (.iconst 1, 1) := by decide +kernel
theorem dX5_goDown_130 : decode cX5_goDown 130 = .ok (.iadd, 1) := by decide +kernel
theorem dX5_goDown_131 : decode cX5_goDown 131 = .ok (.iastore, 1) := by decide +kernel
theorem dX5_goDown_132 : decode cX5_goDown 132 = .ok (.iinc 1 (-1), 3) := by decide +kernel
theorem dX5_goDown_135 : decode cX5_goDown 135 = .ok (.goto (-128), 3) := by decide +kernel
theorem dX5_goDown_138 : decode cX5_goDown 138 = .ok (.return_, 1) := by decide +kernel
theorem dX5_place_0 : decode cX5_place 0 = .ok (.aload_n 0, 1) := by decide +kernel
theorem dX5_place_1 : decode cX5_place 1 = .ok (.aload_n 0, 1) := by decide +kernel
theorem dX5_place_2 : decode cX5_place 2 = .ok (.invokevirtual 124, 3) := by decide +kernel
theorem dX5_place_5 : decode cX5_place 5 = .ok (.putfield 144, 3) := by decide +kernel
theorem dX5_place_8 : decode cX5_place 8 = .ok (.iconst 0, 1) := by decide +kernel
theorem dX5_place_9 : decode cX5_place 9 = .ok (.istore_n 1, 1) := by decide +kernel
theorem dX5_place_10 : decode cX5_place 10 = .ok (.iload_n 1, 1) := by decide +kernel
theorem dX5_place_11 : decode cX5_place 11 = .ok (.aload_n 0, 1) := by decide +kernel
theorem dX5_place_12 : decode cX5_place 12 = .ok (.getfield 96, 3) := by decide +kernel
theorem dX5_place_15 : decode cX5_place 15 = .ok (.if_icmp .ge 30, 3) := by decide +kernel
theorem dX5_place_18 : decode cX5_place 18 = .ok (.aload_n 0, 1) := by decide +kernel
theorem dX5_place_19 : decode cX5_place 19 = .ok (.aload_n 0, 1) := by decide +kernel
theorem dX5_place_20 : decode cX5_place 20 = .ok (.aload_n 0, 1) := by decide +kernel
theorem dX5_place_21 : decode cX5_place 21 = .ok (.getfield 144, 3) := by decide +kernel
theorem dX5_place_24 : decode cX5_place 24 = .ok (.aload_n 0, 1) := by decide +kernel
theorem dX5_place_25 : decode cX5_place 25 = .ok (.getfield 36, 3) := by decide +kernel
theorem dX5_place_28 : decode cX5_place 28 = .ok (.iload_n 1, 1) := by decide +kernel
theorem dX5_place_29 : decode cX5_place 29 = .ok (.iaload, 1) := by decide +kernel
theorem dX5_place_30 : decode cX5_place 30 = .ok (.iload_n 1, 1) := by decide +kernel
theorem dX5_place_31 : decode cX5_place 31 = .ok (.iconst 2, 1) := by decide +kernel
theorem dX5_place_32 : decode cX5_place 32 = .ok (.irem, 1) := by decide +kernel
theorem dX5_place_33 : decode cX5_place 33 = .ok (.invokevirtual 134, 3) := by decide +kernel
theorem dX5_place_36 : decode cX5_place 36 = .ok (.putfield 144, 3) := by decide +kernel
theorem dX5_place_39 : decode cX5_place 39 = .ok (.iinc 1 1, 3) := by decide +kernel
theorem dX5_place_42 : decode cX5_place 42 = .ok (.goto (-32), 3) := by decide +kernel
theorem dX5_place_45 : decode cX5_place 45 = .ok (.return_, 1) := by decide +kernel
theorem dX5_isOver_0 : decode cX5_isOver 0 = .ok (.aload_n 0, 1) := by decide +kernel
theorem dX5_isOver_1 : decode cX5_isOver 1 = .ok (.getfield 14, 3) := by decide +kernel
theorem dX5_isOver_4 : decode cX5_isOver 4 = .ok (.aload_n 0, 1) := by decide +kernel
theorem dX5_isOver_5 : decode cX5_isOver 5 = .ok (.getfield 144, 3) := by decide +kernel
theorem dX5_isOver_8 : decode cX5_isOver 8 = .ok (.baload, 1) := by decide +kernel
theorem dX5_isOver_9 : decode cX5_isOver 9 = .ok (.bipush 127, 2) := by decide +kernel
theorem dX5_isOver_11 : decode cX5_isOver 11 = .ok (.if_icmp .eq 17, 3) := by decide +kernel
theorem dX5_isOver_14 : decode cX5_isOver 14 = .ok (.aload_n 0, 1) := by decide +kernel
theorem dX5_isOver_15 : decode cX5_isOver 15 = .ok (.getfield 14, 3) := by decide +kernel
theorem dX5_isOver_18 : decode cX5_isOver 18 = .ok (.aload_n 0, 1) := by decide +kernel
theorem dX5_isOver_19 : decode cX5_isOver 19 = .ok (.getfield 144, 3) := by decide +kernel
theorem dX5_isOver_22 : decode cX5_isOver 22 = .ok (.baload, 1) := by decide +kernel
theorem dX5_isOver_23 : decode cX5_isOver 23 = .ok (.bipush 126, 2) := by decide +kernel
theorem dX5_isOver_25 : decode cX5_isOver 25 = .ok (.if_icmp .ne 7, 3) := by decide +kernel
theorem dX5_isOver_28 : decode cX5_isOver 28 = .ok (.iconst 1, 1) := by decide +kernel
theorem dX5_isOver_29 : decode cX5_isOver 29 = .ok (.goto 4, 3) := by decide +kernel
theorem dX5_isOver_32 : decode cX5_isOver 32 = .ok (.iconst 0, 1) := by decide +kernel
theorem dX5_isOver_33 : decode cX5_isOver 33 = .ok (.ireturn, 1) := by decide +kernel
theorem dX5_isFree_0 : decode cX5_isFree 0 = .ok (.iload_n 1, 1) := by decide +kernel
theorem dX5_isFree_1 : decode cX5_isFree 1 = .ok (.i2l, 1) := by decide +kernel
theorem dX5_isFree_2 : decode cX5_isFree 2 = .ok (.lconst 0, 1) := by decide +kernel
theorem dX5_isFree_3 : decode cX5_isFree 3 = .ok (.aload_n 0, 1) := by decide +kernel
theorem dX5_isFree_4 : decode cX5_isFree 4 = .ok (.getfield 74, 3) := by decide +kernel
theorem dX5_isFree_7 : decode cX5_isFree 7 = .ok (.iconst 1, 1) := by decide +kernel
theorem dX5_isFree_8 : decode cX5_isFree 8 = .ok (.isub, 1) := by decide +kernel
theorem dX5_isFree_9 : decode cX5_isFree 9 = .ok (.i2l, 1) := by decide +kernel
theorem dX5_isFree_10 : decode cX5_isFree 10 = .ok (.invokestatic 57, 3) := by decide +kernel
theorem dX5_isFree_13 : decode cX5_isFree 13 = .ok (.ifCond .eq 23, 3) := by decide +kernel
theorem dX5_isFree_16 : decode cX5_isFree 16 = .ok (.aload_n 0, 1) := by decide +kernel
theorem dX5_isFree_17 : decode cX5_isFree 17 = .ok (.aload_n 0, 1) := by decide +kernel
theorem dX5_isFree_18 : decode cX5_isFree 18 = .ok (.getfield 144, 3) := by decide +kernel
theorem dX5_isFree_21 : decode cX5_isFree 21 = .ok (.iload_n 1, 1) := by decide +kernel
theorem dX5_isFree_22 : decode cX5_isFree 22 = .ok (.invokevirtual 114, 3) := by decide +kernel
theorem dX5_isFree_25 : decode cX5_isFree 25 = .ok (.aload_n 0, 1) := by decide +kernel
theorem dX5_isFree_26 : decode cX5_isFree 26 = .ok (.getfield 77, 3) := by decide +kernel
theorem dX5_isFree_29 : decode cX5_isFree 29 = .ok (.if_icmp .ge 7, 3) := by decide +kernel
theorem dX5_isFree_32 : decode cX5_isFree 32 = .ok (.iconst 1, 1) := by decide +kernel
theorem dX5_isFree_33 : decode cX5_isFree 33 = .ok (.goto 4, 3) := by decide +kernel
theorem dX5_isFree_36 : decode cX5_isFree 36 = .ok (.iconst 0, 1) := by decide +kernel
theorem dX5_isFree_37 : decode cX5_isFree 37 = .ok (.ireturn, 1) := by decide +kernel
theorem dX5_drop_0 : decode cX5_drop 0 = .ok (.aload_n 0, 1) := by decide +kernel
theorem dX5_drop_1 : decode cX5_drop 1 = .ok (.iload_n 1, 1) := by decide +kernel
theorem dX5_drop_2 : decode cX5_drop 2 = .ok (.invokevirtual 147, 3) := by decide +kernel
theorem dX5_drop_5 : decode cX5_drop 5 = .ok (.ifCond .ne 7, 3) := by decide +kernel
theorem dX5_drop_8 : decode cX5_drop 8 = .ok (.sipush (-200), 3) := by decide +kernel
theorem dX5_drop_11 : decode cX5_drop 11 = .ok (.ireturn, 1) := by decide +kernel
theorem dX5_drop_12 : decode cX5_drop 12 = .ok (.aload_n 0, 1) := by decide +kernel
theorem dX5_drop_13 : decode cX5_drop 13 = .ok (.invokevirtual 150, 3) := by decide +kernel
theorem dX5_drop_16 : decode cX5_drop 16 = .ok (.ifCond .eq 7, 3) := by decide +kernel
theorem dX5_drop_19 : decode cX5_drop 19 = .ok (.sipush (-201), 3) := by decide +kernel
theorem dX5_drop_22 : decode cX5_drop 22 = .ok (.ireturn, 1) := by decide +kernel
theorem dX5_drop_23 : decode cX5_drop 23 = .ok (.aload_n 0, 1) := by decide +kernel
theorem dX5_drop_24 : decode cX5_drop 24 = .ok (.getfield 74, 3) := by decide +kernel
theorem dX5_drop_27 : decode cX5_drop 27 = .ok (.aload_n 0, 1) := by decide +kernel
theorem dX5_drop_28 : decode cX5_drop 28 = .ok (.aload_n 0, 1) := by decide +kernel
theorem dX5_drop_29 : decode cX5_drop 29 = .ok (.getfield 144, 3) := by decide +kernel
theorem dX5_drop_32 : decode cX5_drop 32 = .ok (.iload_n 1, 1) := by decide +kernel
theorem dX5_drop_33 : decode cX5_drop 33 = .ok (.invokevirtual 114, 3) := by decide +kernel
theorem dX5_drop_36 : decode cX5_drop 36 = .ok (.imul, 1) := by decide +kernel
theorem dX5_drop_37 : decode cX5_drop 37 = .ok (.iload_n 1, 1) := by decide +kernel
theorem dX5_drop_38 : decode cX5_drop 38 = .ok (.iadd, 1) := by decide +kernel
theorem dX5_drop_39 : decode cX5_drop 39 = .ok (.istore_n 2, 1) := by decide +kernel
theorem dX5_drop_40 : decode cX5_drop 40 = .ok (.aload_n 0, 1) := by decide +kernel
theorem dX5_drop_41 : decode cX5_drop 41 = .ok (.iload_n 1, 1) := by decide +kernel
theorem dX5_drop_42 : decode cX5_drop 42 = .ok (.invokevirtual 154, 3) := by decide +kernel
theorem dX5_drop_45 : decode cX5_drop 45 = .ok (.iload_n 2, 1) := by decide +kernel
theorem dX5_drop_46 : decode cX5_drop 46 = .ok (.ireturn, 1) := by decide +kernel
theorem dX5_go_0 : decode cX5_go 0 = .ok (.aload_n 0, 1) := by decide +kernel
theorem dX5_go_1 : decode cX5_go 1 = .ok (.aload_n 0, 1) := by decide +kernel
theorem dX5_go_2 : decode cX5_go 2 = .ok (.aload_n 0, 1) := by decide +kernel
theorem dX5_go_3 : decode cX5_go 3 = .ok (.getfield 144, 3) := by decide +kernel
theorem dX5_go_6 : decode cX5_go 6 = .ok (.iload_n 1, 1) := by decide +kernel
theorem dX5_go_7 : decode cX5_go 7 = .ok (.aload_n 0, 1) := by decide +kernel
theorem dX5_go_8 : decode cX5_go 8 = .ok (.getfield 96, 3) := by decide +kernel
theorem dX5_go_11 : decode cX5_go 11 = .ok (.iconst 2, 1) := by decide +kernel
theorem dX5_go_12 : decode cX5_go 12 = .ok (.irem, 1) := by decide +kernel
theorem dX5_go_13 : decode cX5_go 13 = .ok (.invokevirtual 134, 3) := by decide +kernel
theorem dX5_go_16 : decode cX5_go 16 = .ok (.putfield 144, 3) := by decide +kernel
theorem dX5_go_19 : decode cX5_go 19 = .ok (.aload_n 0, 1) := by decide +kernel
theorem dX5_go_20 : decode cX5_go 20 = .ok (.getfield 36, 3) := by decide +kernel
theorem dX5_go_23 : decode cX5_go 23 = .ok (.aload_n 0, 1) := by decide +kernel
theorem dX5_go_24 : decode cX5_go 24 = .ok (.getfield 96, 3) := by decide +kernel
theorem dX5_go_27 : decode cX5_go 27 = .ok (.iload_n 1, 1) := by decide +kernel
theorem dX5_go_28 : decode cX5_go 28 = .ok (.iastore, 1) := by decide +kernel
theorem dX5_go_29 : decode cX5_go 29 = .ok (.aload_n 0, 1) := by decide +kernel
theorem dX5_go_30 : decode cX5_go 30 = .ok (.dup, 1) := by decide +kernel
theorem dX5_go_31 : decode cX5_go 31 = .ok (.getfield 96, 3) := by decide +kernel
theorem dX5_go_34 : decode cX5_go 34 = .ok (.iconst 1, 1) := by decide +kernel
theorem dX5_go_35 : decode cX5_go 35 = .ok (.iadd, 1) := by decide +kernel
theorem dX5_go_36 : decode cX5_go 36 = .ok (.putfield 96, 3) := by decide +kernel
theorem dX5_go_39 : decode cX5_go 39 = .ok (.return_, 1) := by decide +kernel
theorem dX5_back_0 : decode cX5_back 0 = .ok (.iload_n 1, 1) := by decide +kernel
theorem dX5_back_1 : decode cX5_back 1 = .ok (.i2l, 1) := by decide +kernel
theorem dX5_back_2 : decode cX5_back 2 = .ok (.lconst 0, 1) := by decide +kernel
theorem dX5_back_3 : decode cX5_back 3 = .ok (.aload_n 0, 1) := by decide +kernel
theorem dX5_back_4 : decode cX5_back 4 = .ok (.getfield 96, 3) := by decide +kernel
theorem dX5_back_7 : decode cX5_back 7 = .ok (.i2l, 1) := by decide +kernel
theorem dX5_back_8 : decode cX5_back 8 = .ok (.invokestatic 57, 3) := by decide +kernel
theorem dX5_back_11 : decode cX5_back 11 = .ok (.ifCond .ne 7, 3) := by decide +kernel
theorem dX5_back_14 : decode cX5_back 14 = .ok (.sipush (-200), 3) := by decide +kernel
theorem dX5_back_17 : decode cX5_back 17 = .ok (.ireturn, 1) := by decide +kernel
theorem dX5_back_18 : decode cX5_back 18 = .ok (.aload_n 0, 1) := by decide +kernel
theorem dX5_back_19 : decode cX5_back 19 = .ok (.dup, 1) := by decide +kernel
theorem dX5_back_20 : decode cX5_back 20 = .ok (.getfield 96, 3) := by decide +kernel
theorem dX5_back_23 : decode cX5_back 23 = .ok (.iload_n 1, 1) := by decide +kernel
theorem dX5_back_24 : decode cX5_back 24 = .ok (.isub, 1) := by decide +kernel
theorem dX5_back_25 : decode cX5_back 25 = .ok (.putfield 96, 3) := by decide +kernel
theorem dX5_back_28 : decode cX5_back 28 = .ok (.aload_n 0, 1) := by decide +kernel
theorem dX5_back_29 : decode cX5_back 29 = .ok (.invokevirtual 99, 3) := by decide +kernel
theorem dX5_back_32 : decode cX5_back 32 = .ok (.aload_n 0, 1) := by decide +kernel
theorem dX5_back_33 : decode cX5_back 33 = .ok (.getfield 96, 3) := by decide +kernel
theorem dX5_back_36 : decode cX5_back 36 = .ok (.ireturn, 1) := by decide +kernel
theorem dX5_move_0 : decode cX5_move 0 = .ok (.iload_n 1, 1) := by decide +kernel
theorem dX5_move_1 : decode cX5_move 1 = .ok (.i2l, 1) := by decide +kernel
theorem dX5_move_2 : decode cX5_move 2 = .ok (.lconst 0, 1) := by decide +kernel
theorem dX5_move_3 : decode cX5_move 3 = .ok (.aload_n 0, 1) := by decide +kernel
theorem dX5_move_4 : decode cX5_move 4 = .ok (.getfield 96, 3) := by decide +kernel
theorem dX5_move_7 : decode cX5_move 7 = .ok (.iconst 1, 1) := by decide +kernel
theorem dX5_move_8 : decode cX5_move 8 = .ok (.isub, 1) := by decide +kernel
theorem dX5_move_9 : decode cX5_move 9 = .ok (.i2l, 1) := by decide +kernel
theorem dX5_move_10 : decode cX5_move 10 = .ok (.invokestatic 57, 3) := by decide +kernel
theorem dX5_move_13 : decode cX5_move 13 = .ok (.ifCond .eq 12, 3) := by decide +kernel
theorem dX5_move_16 : decode cX5_move 16 = .ok (.aload_n 0, 1) := by decide +kernel
theorem dX5_move_17 : decode cX5_move 17 = .ok (.getfield 36, 3) := by decide +kernel
theorem dX5_move_20 : decode cX5_move 20 = .ok (.iload_n 1, 1) := by decide +kernel
theorem dX5_move_21 : decode cX5_move 21 = .ok (.iaload, 1) := by decide +kernel
theorem dX5_move_22 : decode cX5_move 22 = .ok (.goto 6, 3) := by decide +kernel
theorem dX5_move_25 : decode cX5_move 25 = .ok (.sipush (-200), 3) := by decide +kernel
theorem dX5_move_28 : decode cX5_move 28 = .ok (.ireturn, 1) := by decide +kernel
theorem dX5_at_0 : decode cX5_at 0 = .ok (.iload_n 1, 1) := by decide +kernel
theorem dX5_at_1 : decode cX5_at 1 = .ok (.i2l, 1) := by decide +kernel
theorem dX5_at_2 : decode cX5_at 2 = .ok (.lconst 0, 1) := by decide +kernel
theorem dX5_at_3 : decode cX5_at 3 = .ok (.aload_n 0, 1) := by decide +kernel
theorem dX5_at_4 : decode cX5_at 4 = .ok (.getfield 74, 3) := by decide +kernel
theorem dX5_at_7 : decode cX5_at 7 = .ok (.aload_n 0, 1) := by decide +kernel
theorem dX5_at_8 : decode cX5_at 8 = .ok (.getfield 77, 3) := by decide +kernel
theorem dX5_at_11 : decode cX5_at 11 = .ok (.imul, 1) := by decide +kernel
theorem dX5_at_12 : decode cX5_at 12 = .ok (.iconst 1, 1) := by decide +kernel
theorem dX5_at_13 : decode cX5_at 13 = .ok (.isub, 1) := by decide +kernel
theorem dX5_at_14 : decode cX5_at 14 = .ok (.i2l, 1) := by decide +kernel
theorem dX5_at_15 : decode cX5_at 15 = .ok (.invokestatic 57, 3) := by decide +kernel
theorem dX5_at_18 : decode cX5_at 18 = .ok (.ifCond .ne 7, 3) := by decide +kernel
theorem dX5_at_21 : decode cX5_at 21 = .ok (.sipush (-200), 3) := by decide +kernel
theorem dX5_at_24 : decode cX5_at 24 = .ok (.ireturn, 1) := by decide +kernel
theorem dX5_at_25 : decode cX5_at 25 = .ok (.aload_n 0, 1) := by decide +kernel
theorem dX5_at_26 : decode cX5_at 26 = .ok (.aload_n 0, 1) := by decide +kernel
theorem dX5_at_27 : decode cX5_at 27 = .ok (.getfield 144, 3) := by decide +kernel
theorem dX5_at_30 : decode cX5_at 30 = .ok (.invokevirtual 127, 3) := by decide +kernel
theorem dX5_at_33 : decode cX5_at 33 = .ok (.aload_n 0, 1) := by decide +kernel
theorem dX5_at_34 : decode cX5_at 34 = .ok (.getfield 33, 3) := by decide +kernel
theorem dX5_at_37 : decode cX5_at 37 = .ok (.iconst 0, 1) := by decide +kernel
theorem dX5_at_38 : decode cX5_at 38 = .ok (.iaload, 1) := by decide +kernel
theorem dX5_at_39 : decode cX5_at 39 = .ok (.iload_n 1, 1) := by decide +kernel
theorem dX5_at_40 : decode cX5_at 40 = .ok (.ishr, 1) := by decide +kernel
theorem dX5_at_41 : decode cX5_at 41 = .ok (.iconst 1, 1) := by decide +kernel
theorem dX5_at_42 : decode cX5_at 42 = .ok (.iand, 1) := by decide +kernel
theorem dX5_at_43 : decode cX5_at 43 = .ok (.iconst 1, 1) := by decide +kernel
theorem dX5_at_44 : decode cX5_at 44 = .ok (.if_icmp .ne 7, 3) := by decide +kernel
theorem dX5_at_47 : decode cX5_at 47 = .ok (.iconst 0, 1) := by decide +kernel
theorem dX5_at_48 : decode cX5_at 48 = .ok (.goto 22, 3) := by decide +kernel
theorem dX5_at_51 : decode cX5_at 51 = .ok (.aload_n 0, 1) := by decide +kernel
theorem dX5_at_52 : decode cX5_at 52 = .ok (.getfield 33, 3) := by decide +kernel
theorem dX5_at_55 : decode cX5_at 55 = .ok (.iconst 1, 1) := by decide +kernel
theorem dX5_at_56 : decode cX5_at 56 = .ok (.iaload, 1) := by decide +kernel
theorem dX5_at_57 : decode cX5_at 57 = .ok (.iload_n 1, 1) := by decide +kernel
theorem dX5_at_58 : decode cX5_at 58 = .ok (.ishr, 1) := by decide +kernel
theorem dX5_at_59 : decode cX5_at 59 = .ok (.iconst 1, 1) := by decide +kernel
theorem dX5_at_60 : decode cX5_at 60 = .ok (.iand, 1) := by decide +kernel
theorem dX5_at_61 : decode cX5_at 61 = .ok (.iconst 1, 1) := by decide +kernel
theorem dX5_at_62 : decode cX5_at 62 = .ok (.if_icmp .ne 7, 3) := by decide +kernel
theorem dX5_at_65 : decode cX5_at 65 = .ok (.iconst 1, 1) := by decide +kernel
theorem dX5_at_66 : decode cX5_at 66 = .ok (.goto 4, 3) := by decide +kernel
theorem dX5_at_69 : decode cX5_at 69 = .ok (.iconst (-1), 1) := by decide +kernel
theorem dX5_at_70 : decode cX5_at 70 = .ok (.ireturn, 1) := by decide +kernel
theorem dX5_game_0 : decode cX5_game 0 = .ok (.iconst 0, 1) := by decide +kernel
theorem dX5_game_1 : decode cX5_game 1 = .ok (.istore_n 2, 1) := by decide +kernel
theorem dX5_game_2 : decode cX5_game 2 = .ok (.iload_n 1, 1) := by decide +kernel
theorem dX5_game_3 : decode cX5_game 3 = .ok (.tableswitch 191 0 4 #[33, 40, 45, 83, 117], 33) := by decide +kernel
theorem dX5_game_36 : decode cX5_game 36 = .ok (.aload_n 0, 1) := by decide +kernel
theorem dX5_game_37 : decode cX5_game 37 = .ok (.getfield 96, 3) := by decide +kernel
theorem dX5_game_40 : decode cX5_game 40 = .ok (.iconst 2, 1) := by decide +kernel
theorem dX5_game_41 : decode cX5_game 41 = .ok (.irem, 1) := by decide +kernel
theorem dX5_game_42 : decode cX5_game 42 = .ok (.ireturn, 1) := by decide +kernel
theorem dX5_game_43 : decode cX5_game 43 = .ok (.aload_n 0, 1) := by decide +kernel
theorem dX5_game_44 : decode cX5_game 44 = .ok (.getfield 96, 3) := by decide +kernel
theorem dX5_game_47 : decode cX5_game 47 = .ok (.ireturn, 1) := by decide +kernel
theorem dX5_game_48 : decode cX5_game 48 = .ok (.aload_n 0, 1) := by decide +kernel
theorem dX5_game_49 : decode cX5_game 49 = .ok (.getfield 14, 3) := by decide +kernel
theorem dX5_game_52 : decode cX5_game 52 = .ok (.aload_n 0, 1) := by decide +kernel
theorem dX5_game_53 : decode cX5_game 53 = .ok (.getfield 144, 3) := by decide +kernel
theorem dX5_game_56 : decode cX5_game 56 = .ok (.baload, 1) := by decide +kernel
theorem dX5_game_57 : decode cX5_game 57 = .ok (.bipush 127, 2) := by decide +kernel
theorem dX5_game_59 : decode cX5_game 59 = .ok (.if_icmp .ne 7, 3) := by decide +kernel
theorem dX5_game_62 : decode cX5_game 62 = .ok (.iconst 1, 1) := by decide +kernel
theorem dX5_game_63 : decode cX5_game 63 = .ok (.goto 22, 3) := by decide +kernel
theorem dX5_game_66 : decode cX5_game 66 = .ok (.aload_n 0, 1) := by decide +kernel
theorem dX5_game_67 : decode cX5_game 67 = .ok (.getfield 14, 3) := by decide +kernel
theorem dX5_game_70 : decode cX5_game 70 = .ok (.aload_n 0, 1) := by decide +kernel
theorem dX5_game_71 : decode cX5_game 71 = .ok (.getfield 144, 3) := by decide +kernel
theorem dX5_game_74 : decode cX5_game 74 = .ok (.baload, 1) := by decide +kernel
theorem dX5_game_75 : decode cX5_game 75 = .ok (.bipush 126, 2) := by decide +kernel
theorem dX5_game_77 : decode cX5_game 77 = .ok (.if_icmp .ne 7, 3) := by decide +kernel
theorem dX5_game_80 : decode cX5_game 80 = .ok (.iconst 2, 1) := by decide +kernel
theorem dX5_game_81 : decode cX5_game 81 = .ok (.goto 4, 3) := by decide +kernel
theorem dX5_game_84 : decode cX5_game 84 = .ok (.iconst 0, 1) := by decide +kernel
theorem dX5_game_85 : decode cX5_game 85 = .ok (.ireturn, 1) := by decide +kernel
theorem dX5_game_86 : decode cX5_game 86 = .ok (.iconst 0, 1) := by decide +kernel
theorem dX5_game_87 : decode cX5_game 87 = .ok (.istore_n 3, 1) := by decide +kernel
theorem dX5_game_88 : decode cX5_game 88 = .ok (.iload_n 3, 1) := by decide +kernel
theorem dX5_game_89 : decode cX5_game 89 = .ok (.aload_n 0, 1) := by decide +kernel
theorem dX5_game_90 : decode cX5_game 90 = .ok (.getfield 74, 3) := by decide +kernel
theorem dX5_game_93 : decode cX5_game 93 = .ok (.if_icmp .ge 25, 3) := by decide +kernel
theorem dX5_game_96 : decode cX5_game 96 = .ok (.iload_n 2, 1) := by decide +kernel
theorem dX5_game_97 : decode cX5_game 97 = .ok (.aload_n 0, 1) := by decide +kernel
theorem dX5_game_98 : decode cX5_game 98 = .ok (.iload_n 3, 1) := by decide +kernel
theorem dX5_game_99 : decode cX5_game 99 = .ok (.invokevirtual 147, 3) := by decide +kernel
theorem dX5_game_102 : decode cX5_game 102 = .ok (.ifCond .eq 7, 3) := by decide +kernel
theorem dX5_game_105 : decode cX5_game 105 = .ok (.iconst 1, 1) := by decide +kernel
theorem dX5_game_106 : decode cX5_game 106 = .ok (.goto 4, 3) := by decide +kernel
theorem dX5_game_109 : decode cX5_game 109 = .ok (.iconst 0, 1) := by decide +kernel
theorem dX5_game_110 : decode cX5_game 110 = .ok (.iadd, 1) := by decide +kernel
theorem dX5_game_111 : decode cX5_game 111 = .ok (.istore_n 2, 1) := by decide +kernel
theorem dX5_game_112 : decode cX5_game 112 = .ok (.iinc 3 1, 3) := by decide +kernel
theorem dX5_game_115 : decode cX5_game 115 = .ok (.goto (-27), 3) := by decide +kernel
theorem dX5_game_118 : decode cX5_game 118 = .ok (.iload_n 2, 1) := by decide +kernel
theorem dX5_game_119 : decode cX5_game 119 = .ok (.ireturn, 1) := by decide +kernel
theorem dX5_game_120 : decode cX5_game 120 = .ok (.aload_n 0, 1) := by decide +kernel
theorem dX5_game_121 : decode cX5_game 121 = .ok (.aload_n 0, 1) := by decide +kernel
theorem dX5_game_122 : decode cX5_game 122 = .ok (.getfield 144, 3) := by decide +kernel
theorem dX5_game_125 : decode cX5_game 125 = .ok (.invokevirtual 127, 3) := by decide +kernel
theorem dX5_game_128 : decode cX5_game 128 = .ok (.iconst 0, 1) := by decide +kernel
theorem dX5_game_129 : decode cX5_game 129 = .ok (.istore_n 3, 1) := by decide +kernel
theorem dX5_game_130 : decode cX5_game 130 = .ok (.iload_n 3, 1) := by decide +kernel
theorem dX5_game_131 : decode cX5_game 131 = .ok (.aload_n 0, 1) := by decide +kernel
theorem dX5_game_132 : decode cX5_game 132 = .ok (.getfield 71, 3) := by decide +kernel
theorem dX5_game_135 : decode cX5_game 135 = .ok (.if_icmp .ge 57, 3) := by decide +kernel
theorem dX5_game_138 : decode cX5_game 138 = .ok (.iload_n 2, 1) := by decide +kernel
theorem dX5_game_139 : decode cX5_game 139 = .ok (.aload_n 0, 1) := by decide +kernel
theorem dX5_game_140 : decode cX5_game 140 = .ok (.getfield 7, 3) := by decide +kernel
theorem dX5_game_143 : decode cX5_game 143 = .ok (.iload_n 3, 1) := by decide +kernel
theorem dX5_game_144 : decode cX5_game 144 = .ok (.iaload, 1) := by decide +kernel
theorem dX5_game_145 : decode cX5_game 145 = .ok (.aload_n 0, 1) := by decide +kernel
theorem dX5_game_146 : decode cX5_game 146 = .ok (.getfield 33, 3) := by decide +kernel
theorem dX5_game_149 : decode cX5_game 149 = .ok (.iconst 0, 1) := by decide +kernel
theorem dX5_game_150 : decode cX5_game 150 = .ok (.iaload, 1) := by decide +kernel
theorem dX5_game_151 : decode cX5_game 151 = .ok (.iand, 1) := by decide +kernel
theorem dX5_game_152 : decode cX5_game 152 = .ok (.ifCond .ne 7, 3) := by decide +kernel
theorem dX5_game_155 : decode cX5_game 155 = .ok (.iconst 1, 1) := by decide +kernel
theorem dX5_game_156 : decode cX5_game 156 = .ok (.goto 4, 3) := by decide +kernel
theorem dX5_game_159 : decode cX5_game 159 = .ok (.iconst 0, 1) := by decide +kernel
theorem dX5_game_160 : decode cX5_game 160 = .ok (.iadd, 1) := by decide +kernel
theorem dX5_game_161 : decode cX5_game 161 = .ok (.istore_n 2, 1) := by decide +kernel
theorem dX5_game_162 : decode cX5_game 162 = .ok (.iload_n 2, 1) := by decide +kernel
theorem dX5_game_163 : decode cX5_game 163 = .ok (.aload_n 0, 1) := by decide +kernel
theorem dX5_game_164 : decode cX5_game 164 = .ok (.getfield 7, 3) := by decide +kernel
theorem dX5_game_167 : decode cX5_game 167 = .ok (.iload_n 3, 1) := by decide +kernel
theorem dX5_game_168 : decode cX5_game 168 = .ok (.iaload, 1) := by decide +kernel
theorem dX5_game_169 : decode cX5_game 169 = .ok (.aload_n 0, 1) := by decide +kernel
theorem dX5_game_170 : decode cX5_game 170 = .ok (.getfield 33, 3) := by decide +kernel
theorem dX5_game_173 : decode cX5_game 173 = .ok (.iconst 1, 1) := by decide +kernel
theorem dX5_game_174 : decode cX5_game 174 = .ok (.iaload, 1) := by decide +kernel
theorem dX5_game_175 : decode cX5_game 175 = .ok (.iand, 1) := by decide +kernel
theorem dX5_game_176 : decode cX5_game 176 = .ok (.ifCond .ne 7, 3) := by decide +kernel
theorem dX5_game_179 : decode cX5_game 179 = .ok (.iconst 1, 1) := by decide +kernel
theorem dX5_game_180 : decode cX5_game 180 = .ok (.goto 4, 3) := by decide +kernel
theorem dX5_game_183 : decode cX5_game 183 = .ok (.iconst 0, 1) := by decide +kernel
theorem dX5_game_184 : decode cX5_game 184 = .ok (.iadd, 1) := by decide +kernel
theorem dX5_game_185 : decode cX5_game 185 = .ok (.istore_n 2, 1) := by decide +kernel
theorem dX5_game_186 : decode cX5_game 186 = .ok (.iinc 3 1, 3) := by decide +kernel
theorem dX5_game_189 : decode cX5_game 189 = .ok (.goto (-59), 3) := by decide +kernel
theorem dX5_game_192 : decode cX5_game 192 = .ok (.iload_n 2, 1) := by decide +kernel
theorem dX5_game_193 : decode cX5_game 193 = .ok (.ireturn, 1) := by decide +kernel
theorem dX5_game_194 : decode cX5_game 194 = .ok (.sipush (-200), 3) := by decide +kernel
theorem dX5_game_197 : decode cX5_game 197 = .ok (.ireturn, 1) := by decide +kernel
theorem dX5_bitOf_0 : decode cX5_bitOf 0 = .ok (.iload_n 1, 1) := by decide +kernel
theorem dX5_bitOf_1 : decode cX5_bitOf 1 = .ok (.istore_n 2, 1) := by decide +kernel
theorem dX5_bitOf_2 : decode cX5_bitOf 2 = .ok (.iconst 0, 1) := by decide +kernel
theorem dX5_bitOf_3 : decode cX5_bitOf 3 = .ok (.istore_n 3, 1) := by decide +kernel
theorem dX5_bitOf_4 : decode cX5_bitOf 4 = .ok (.iload_n 3, 1) := by decide +kernel
theorem dX5_bitOf_5 : decode cX5_bitOf 5 = .ok (.bipush 16, 2) := by decide +kernel
theorem dX5_bitOf_7 : decode cX5_bitOf 7 = .ok (.if_icmp .ge 31, 3) := by decide +kernel
theorem dX5_bitOf_10 : decode cX5_bitOf 10 = .ok (.iload_n 1, 1) := by decide +kernel
theorem dX5_bitOf_11 : decode cX5_bitOf 11 = .ok (.ifCond .lt 27, 3) := by decide +kernel
theorem dX5_bitOf_14 : decode cX5_bitOf 14 = .ok (.iload_n 0, 1) := by decide +kernel
theorem dX5_bitOf_15 : decode cX5_bitOf 15 = .ok (.iload_n 3, 1) := by decide +kernel
theorem dX5_bitOf_16 : decode cX5_bitOf 16 = .ok (.ishr, 1) := by decide +kernel
theorem dX5_bitOf_17 : decode cX5_bitOf 17 = .ok (.iconst 1, 1) := by decide +kernel
theorem dX5_bitOf_18 : decode cX5_bitOf 18 = .ok (.iand, 1) := by decide +kernel
theorem dX5_bitOf_19 : decode cX5_bitOf 19 = .ok (.iconst 1, 1) := by decide +kernel
theorem dX5_bitOf_20 : decode cX5_bitOf 20 = .ok (.if_icmp .ne 12, 3) := by decide +kernel
theorem dX5_bitOf_23 : decode cX5_bitOf 23 = .ok (.iload_n 2, 1) := by decide +kernel
theorem dX5_bitOf_24 : decode cX5_bitOf 24 = .ok (.ifCond .ne 5, 3) := by decide +kernel
theorem dX5_bitOf_27 : decode cX5_bitOf 27 = .ok (.iload_n 3, 1) := by decide +kernel
theorem dX5_bitOf_28 : decode cX5_bitOf 28 = .ok (.ireturn, 1) := by decide +kernel
theorem dX5_bitOf_29 : decode cX5_bitOf 29 = .ok (.iinc 2 (-1), 3) := by decide +kernel
theorem dX5_bitOf_32 : decode cX5_bitOf 32 = .ok (.iinc 3 1, 3) := by decide +kernel
theorem dX5_bitOf_35 : decode cX5_bitOf 35 = .ok (.goto (-31), 3) := by decide +kernel
theorem dX5_bitOf_38 : decode cX5_bitOf 38 = .ok (.iconst (-1), 1) := by decide +kernel
theorem dX5_bitOf_39 : decode cX5_bitOf 39 = .ok (.ireturn, 1) := by decide +kernel
theorem dX5_isAhead_0 : decode cX5_isAhead 0 = .ok (.iload_n 0, 1) := by decide +kernel
theorem dX5_isAhead_1 : decode cX5_isAhead 1 = .ok (.iload_n 1, 1) := by decide +kernel
theorem dX5_isAhead_2 : decode cX5_isAhead 2 = .ok (.ixor, 1) := by decide +kernel
theorem dX5_isAhead_3 : decode cX5_isAhead 3 = .ok (.istore_n 2, 1) := by decide +kernel
theorem dX5_isAhead_4 : decode cX5_isAhead 4 = .ok (.iload_n 2, 1) := by decide +kernel
theorem dX5_isAhead_5 : decode cX5_isAhead 5 = .ok (.iconst 0, 1) := by decide +kernel
theorem dX5_isAhead_6 : decode cX5_isAhead 6 = .ok (.invokestatic 157, 3) := by decide +kernel
theorem dX5_isAhead_9 : decode cX5_isAhead 9 = .ok (.istore_n 3, 1) := by decide +kernel
theorem dX5_isAhead_10 : decode cX5_isAhead 10 = .ok (.iload_n 3, 1) := by decide +kernel
theorem dX5_isAhead_11 : decode cX5_isAhead 11 = .ok (.ifCond .lt 16, 3) := by decide +kernel
theorem dX5_isAhead_14 : decode cX5_isAhead 14 = .ok (.iload_n 0, 1) := by decide +kernel
theorem dX5_isAhead_15 : decode cX5_isAhead 15 = .ok (.iload_n 3, 1) := by decide +kernel
theorem dX5_isAhead_16 : decode cX5_isAhead 16 = .ok (.ishr, 1) := by decide +kernel
theorem dX5_isAhead_17 : decode cX5_isAhead 17 = .ok (.iconst 1, 1) := by decide +kernel
theorem dX5_isAhead_18 : decode cX5_isAhead 18 = .ok (.iand, 1) := by decide +kernel
theorem dX5_isAhead_19 : decode cX5_isAhead 19 = .ok (.iconst 1, 1) := by decide +kernel
theorem dX5_isAhead_20 : decode cX5_isAhead 20 = .ok (.if_icmp .ne 7, 3) := by decide +kernel
theorem dX5_isAhead_23 : decode cX5_isAhead 23 = .ok (.iconst 1, 1) := by decide +kernel
theorem dX5_isAhead_24 : decode cX5_isAhead 24 = .ok (.goto 4, 3) := by decide +kernel
theorem dX5_isAhead_27 : decode cX5_isAhead 27 = .ok (.iconst 0, 1) := by decide +kernel
theorem dX5_isAhead_28 : decode cX5_isAhead 28 = .ok (.ireturn, 1) := by decide +kernel
theorem dX5_won_0 : decode cX5_won 0 = .ok (.aload_n 0, 1) := by decide +kernel
theorem dX5_won_1 : decode cX5_won 1 = .ok (.getfield 14, 3) := by decide +kernel
theorem dX5_won_4 : decode cX5_won 4 = .ok (.aload_n 0, 1) := by decide +kernel
theorem dX5_won_5 : decode cX5_won 5 = .ok (.getfield 144, 3) := by decide +kernel
theorem dX5_won_8 : decode cX5_won 8 = .ok (.baload, 1) := by decide +kernel
theorem dX5_won_9 : decode cX5_won 9 = .ok (.bipush 127, 2) := by decide +kernel
theorem dX5_won_11 : decode cX5_won 11 = .ok (.if_icmp .ne 19, 3) := by decide +kernel
theorem dX5_won_14 : decode cX5_won 14 = .ok (.iload_n 1, 1) := by decide +kernel
theorem dX5_won_15 : decode cX5_won 15 = .ok (.i2l, 1) := by decide +kernel
theorem dX5_won_16 : decode cX5_won 16 = .ok (.lconst 0, 1) := by decide +kernel
theorem dX5_won_17 : decode cX5_won 17 = .ok (.aload_n 0, 1) := by decide +kernel
theorem dX5_won_18 : decode cX5_won 18 = .ok (.getfield 80, 3) := by decide +kernel
theorem dX5_won_21 : decode cX5_won 21 = .ok (.iconst 1, 1) := by decide +kernel
theorem dX5_won_22 : decode cX5_won 22 = .ok (.isub, 1) := by decide +kernel
theorem dX5_won_23 : decode cX5_won 23 = .ok (.i2l, 1) := by decide +kernel
theorem dX5_won_24 : decode cX5_won 24 = .ok (.invokestatic 57, 3) := by decide +kernel
theorem dX5_won_27 : decode cX5_won 27 = .ok (.ifCond .ne 7, 3) := by decide +kernel
theorem dX5_won_30 : decode cX5_won 30 = .ok (.sipush (-200), 3) := by decide +kernel
theorem dX5_won_33 : decode cX5_won 33 = .ok (.ireturn, 1) := by decide +kernel
theorem dX5_won_34 : decode cX5_won 34 = .ok (.aload_n 0, 1) := by decide +kernel
theorem dX5_won_35 : decode cX5_won 35 = .ok (.aload_n 0, 1) := by decide +kernel
theorem dX5_won_36 : decode cX5_won 36 = .ok (.getfield 144, 3) := by decide +kernel
theorem dX5_won_39 : decode cX5_won 39 = .ok (.invokevirtual 127, 3) := by decide +kernel
theorem dX5_won_42 : decode cX5_won 42 = .ok (.aload_n 0, 1) := by decide +kernel
theorem dX5_won_43 : decode cX5_won 43 = .ok (.getfield 33, 3) := by decide +kernel
theorem dX5_won_46 : decode cX5_won 46 = .ok (.iconst 1, 1) := by decide +kernel
theorem dX5_won_47 : decode cX5_won 47 = .ok (.aload_n 0, 1) := by decide +kernel
theorem dX5_won_48 : decode cX5_won 48 = .ok (.getfield 96, 3) := by decide +kernel
theorem dX5_won_51 : decode cX5_won 51 = .ok (.iconst 2, 1) := by decide +kernel
theorem dX5_won_52 : decode cX5_won 52 = .ok (.irem, 1) := by decide +kernel
theorem dX5_won_53 : decode cX5_won 53 = .ok (.isub, 1) := by decide +kernel
theorem dX5_won_54 : decode cX5_won 54 = .ok (.iaload, 1) := by decide +kernel
theorem dX5_won_55 : decode cX5_won 55 = .ok (.istore_n 2, 1) := by decide +kernel
theorem dX5_won_56 : decode cX5_won 56 = .ok (.iconst 0, 1) := by decide +kernel
theorem dX5_won_57 : decode cX5_won 57 = .ok (.istore_n 3, 1) := by decide +kernel
theorem dX5_won_58 : decode cX5_won 58 = .ok (.iconst 0, 1) := by decide +kernel
theorem dX5_won_59 : decode cX5_won 59 = .ok (.istore 4, 2) := by decide +kernel
theorem dX5_won_61 : decode cX5_won 61 = .ok (.iload 4, 2) := by decide +kernel
theorem dX5_won_63 : decode cX5_won 63 = .ok (.aload_n 0, 1) := by decide +kernel
theorem dX5_won_64 : decode cX5_won 64 = .ok (.getfield 71, 3) := by decide +kernel
theorem dX5_won_67 : decode cX5_won 67 = .ok (.if_icmp .ge 54, 3) := by decide +kernel
theorem dX5_won_70 : decode cX5_won 70 = .ok (.aload_n 0, 1) := by decide +kernel
theorem dX5_won_71 : decode cX5_won 71 = .ok (.getfield 7, 3) := by decide +kernel
theorem dX5_won_74 : decode cX5_won 74 = .ok (.iload 4, 2) := by decide +kernel
theorem dX5_won_76 : decode cX5_won 76 = .ok (.iaload, 1) := by decide +kernel
theorem dX5_won_77 : decode cX5_won 77 = .ok (.iload_n 2, 1) := by decide +kernel
theorem dX5_won_78 : decode cX5_won 78 = .ok (.iand, 1) := by decide +kernel
theorem dX5_won_79 : decode cX5_won 79 = .ok (.aload_n 0, 1) := by decide +kernel
theorem dX5_won_80 : decode cX5_won 80 = .ok (.getfield 7, 3) := by decide +kernel
theorem dX5_won_83 : decode cX5_won 83 = .ok (.iload 4, 2) := by decide +kernel
theorem dX5_won_85 : decode cX5_won 85 = .ok (.iaload, 1) := by decide +kernel
theorem dX5_won_86 : decode cX5_won 86 = .ok (.if_icmp .ne 29, 3) := by decide +kernel
theorem dX5_won_89 : decode cX5_won 89 = .ok (.iload_n 3, 1) := by decide +kernel
theorem dX5_won_90 : decode cX5_won 90 = .ok (.ifCond .eq 17, 3) := by decide +kernel
theorem dX5_won_93 : decode cX5_won 93 = .ok (.aload_n 0, 1) := by decide +kernel
theorem dX5_won_94 : decode cX5_won 94 = .ok (.getfield 7, 3) := by decide +kernel
theorem dX5_won_97 : decode cX5_won 97 = .ok (.iload 4, 2) := by decide +kernel
theorem dX5_won_99 : decode cX5_won 99 = .ok (.iaload, 1) := by decide +kernel
theorem dX5_won_100 : decode cX5_won 100 = .ok (.iload_n 3, 1) := by decide +kernel
theorem dX5_won_101 : decode cX5_won 101 = .ok (.invokestatic 160, 3) := by decide +kernel
theorem dX5_won_104 : decode cX5_won 104 = .ok (.ifCond .eq 11, 3) := by decide +kernel
theorem dX5_won_107 : decode cX5_won 107 = .ok (.aload_n 0, 1) := by decide +kernel
theorem dX5_won_108 : decode cX5_won 108 = .ok (.getfield 7, 3) := by decide +kernel
theorem dX5_won_111 : decode cX5_won 111 = .ok (.iload 4, 2) := by decide +kernel
theorem dX5_won_113 : decode cX5_won 113 = .ok (.iaload, 1) := by decide +kernel
theorem dX5_won_114 : decode cX5_won 114 = .ok (.istore_n 3, 1) := by decide +kernel
theorem dX5_won_115 : decode cX5_won 115 = .ok (.iinc 4 1, 3) := by decide +kernel
theorem dX5_won_118 : decode cX5_won 118 = .ok (.goto (-57), 3) := by decide +kernel
theorem dX5_won_121 : decode cX5_won 121 = .ok (.iload_n 3, 1) := by decide +kernel
theorem dX5_won_122 : decode cX5_won 122 = .ok (.iload_n 1, 1) := by decide +kernel
theorem dX5_won_123 : decode cX5_won 123 = .ok (.invokestatic 157, 3) := by decide +kernel
theorem dX5_won_126 : decode cX5_won 126 = .ok (.ireturn, 1) := by decide +kernel
