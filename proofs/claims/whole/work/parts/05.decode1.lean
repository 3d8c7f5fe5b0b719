/-! the instructions, decoded -/
theorem dX3_init_0 : decode cX3_init 0 = .ok (.aload_n 0, 1) := by decide +kernel
theorem dX3_init_1 : decode cX3_init 1 = .ok (.invokespecial 3, 3) := by decide +kernel
theorem dX3_init_4 : decode cX3_init 4 = .ok (.aload_n 0, 1) := by decide +kernel
theorem dX3_init_5 : decode cX3_init 5 = .ok (.bipush 7, 2) := by decide +kernel
theorem dX3_init_7 : decode cX3_init 7 = .ok (.newarray .int, 2) := by decide +kernel
theorem dX3_init_9 : decode cX3_init 9 = .ok (.putfield 9, 3) := by decide +kernel
theorem dX3_init_12 : decode cX3_init 12 = .ok (.aload_n 0, 1) := by decide +kernel
theorem dX3_init_13 : decode cX3_init 13 = .ok (.bipush 7, 2) := by decide +kernel
theorem dX3_init_15 : decode cX3_init 15 = .ok (.newarray .int, 2) := by decide +kernel
theorem dX3_init_17 : decode cX3_init 17 = .ok (.putfield 15, 3) := by decide +kernel
theorem dX3_init_20 : decode cX3_init 20 = .ok (.aload_n 0, 1) := by decide +kernel
theorem dX3_init_21 : decode cX3_init 21 = .ok (.bipush 7, 2) := by decide +kernel
theorem dX3_init_23 : decode cX3_init 23 = .ok (.newarray .int, 2) := by decide +kernel
theorem dX3_init_25 : decode cX3_init 25 = .ok (.putfield 18, 3) := by decide +kernel
theorem dX3_init_28 : decode cX3_init 28 = .ok (.aload_n 0, 1) := by decide +kernel
theorem dX3_init_29 : decode cX3_init 29 = .ok (.iconst 5, 1) := by decide +kernel
theorem dX3_init_30 : decode cX3_init 30 = .ok (.bipush 17, 2) := by decide +kernel
theorem dX3_init_32 : decode cX3_init 32 = .ok (.multianewarray 21 2, 4) := by decide +kernel
theorem dX3_init_36 : decode cX3_init 36 = .ok (.putfield 23, 3) := by decide +kernel
theorem dX3_init_39 : decode cX3_init 39 = .ok (.aload_n 0, 1) := by decide +kernel
theorem dX3_init_40 : decode cX3_init 40 = .ok (.iconst 0, 1) := by decide +kernel
theorem dX3_init_41 : decode cX3_init 41 = .ok (.newarray .long, 2) := by decide +kernel
theorem dX3_init_43 : decode cX3_init 43 = .ok (.putfield 26, 3) := by decide +kernel
theorem dX3_init_46 : decode cX3_init 46 = .ok (.aload_n 0, 1) := by decide +kernel
theorem dX3_init_47 : decode cX3_init 47 = .ok (.aload_n 1, 1) := by decide +kernel
theorem dX3_init_48 : decode cX3_init 48 = .ok (.putfield 30, 3) := by decide +kernel
theorem dX3_init_51 : decode cX3_init 51 = .ok (.return_, 1) := by decide +kernel
theorem dX3_forget_0 : decode cX3_forget 0 = .ok (.aload_n 0, 1) := by decide +kernel
theorem dX3_forget_1 : decode cX3_forget 1 = .ok (.iconst 0, 1) := by decide +kernel
theorem dX3_forget_2 : decode cX3_forget 2 = .ok (.putfield 34, 3) := by decide +kernel
theorem dX3_forget_5 : decode cX3_forget 5 = .ok (.return_, 1) := by decide +kernel
theorem dX3_prepare_0 : decode cX3_prepare 0 = .ok (.aload_n 0, 1) := by decide +kernel
theorem dX3_prepare_1 : decode cX3_prepare 1 = .ok (.getfield 34, 3) := by decide +kernel
theorem dX3_prepare_4 : decode cX3_prepare 4 = .ok (.ifCond .eq 4, 3) := by decide +kernel
theorem dX3_prepare_7 : decode cX3_prepare 7 = .ok (.return_, 1) := by decide +kernel
theorem dX3_prepare_8 : decode cX3_prepare 8 = .ok (.iconst 2, 1) := by decide +kernel
theorem dX3_prepare_9 : decode cX3_prepare 9 = .ok (.aload_n 0, 1) := by decide +kernel
theorem dX3_prepare_10 : decode cX3_prepare 10 = .ok (.getfield 30, 3) := by decide +kernel
theorem dX3_prepare_13 : decode cX3_prepare 13 = .ok (.getfield 38, 3) := by decide +kernel
theorem dX3_prepare_16 : decode cX3_prepare 16 = .ok (.ishl, 1) := by decide +kernel
theorem dX3_prepare_17 : decode cX3_prepare 17 = .ok (.iconst 1, 1) := by decide +kernel
theorem dX3_prepare_18 : decode cX3_prepare 18 = .ok (.isub, 1) := by decide +kernel
theorem dX3_prepare_19 : decode cX3_prepare 19 = .ok (.istore_n 1, 1) := by decide +kernel
theorem dX3_prepare_20 : decode cX3_prepare 20 = .ok (.iconst 1, 1) := by decide +kernel
theorem dX3_prepare_21 : decode cX3_prepare 21 = .ok (.istore_n 2, 1) := by decide +kernel
theorem dX3_prepare_22 : decode cX3_prepare 22 = .ok (.iconst 0, 1) := by decide +kernel
theorem dX3_prepare_23 : decode cX3_prepare 23 = .ok (.istore_n 3, 1) := by decide +kernel
theorem dX3_prepare_24 : decode cX3_prepare 24 = .ok (.iload_n 3, 1) := by decide +kernel
theorem dX3_prepare_25 : decode cX3_prepare 25 = .ok (.aload_n 0, 1) := by decide +kernel
theorem dX3_prepare_26 : decode cX3_prepare 26 = .ok (.getfield 30, 3) := by decide +kernel
theorem dX3_prepare_29 : decode cX3_prepare 29 = .ok (.getfield 44, 3) := by decide +kernel
theorem dX3_prepare_32 : decode cX3_prepare 32 = .ok (.if_icmp .ge 20, 3) := by decide +kernel
theorem dX3_prepare_35 : decode cX3_prepare 35 = .ok (.aload_n 0, 1) := by decide +kernel
theorem dX3_prepare_36 : decode cX3_prepare 36 = .ok (.getfield 9, 3) := by decide +kernel
theorem dX3_prepare_39 : decode cX3_prepare 39 = .ok (.iload_n 3, 1) := by decide +kernel
theorem dX3_prepare_40 : decode cX3_prepare 40 = .ok (.iload_n 2, 1) := by decide +kernel
theorem dX3_prepare_41 : decode cX3_prepare 41 = .ok (.iastore, 1) := by decide +kernel
theorem dX3_prepare_42 : decode cX3_prepare 42 = .ok (.iload_n 2, 1) := by decide +kernel
theorem dX3_prepare_43 : decode cX3_prepare 43 = .ok (.iload_n 1, 1) := by decide +kernel
theorem dX3_prepare_44 : decode cX3_prepare 44 = .ok (.imul, 1) := by decide +kernel
theorem dX3_prepare_45 : decode cX3_prepare 45 = .ok (.istore_n 2, 1) := by decide +kernel
theorem dX3_prepare_46 : decode cX3_prepare 46 = .ok (.iinc 3 1, 3) := by decide +kernel
theorem dX3_prepare_49 : decode cX3_prepare 49 = .ok (.goto (-25), 3) := by decide +kernel
theorem dX3_prepare_52 : decode cX3_prepare 52 = .ok (.iload_n 2, 1) := by decide +kernel
theorem dX3_prepare_53 : decode cX3_prepare 53 = .ok (.bipush 7, 2) := by decide +kernel
theorem dX3_prepare_55 : decode cX3_prepare 55 = .ok (.iadd, 1) := by decide +kernel
theorem dX3_prepare_56 : decode cX3_prepare 56 = .ok (.iconst 3, 1) := by decide +kernel
theorem dX3_prepare_57 : decode cX3_prepare 57 = .ok (.ishr, 1) := by decide +kernel
theorem dX3_prepare_58 : decode cX3_prepare 58 = .ok (.istore_n 3, 1) := by decide +kernel
theorem dX3_prepare_59 : decode cX3_prepare 59 = .ok (.iload_n 3, 1) := by decide +kernel
theorem dX3_prepare_60 : decode cX3_prepare 60 = .ok (.aload_n 0, 1) := by decide +kernel
theorem dX3_prepare_61 : decode cX3_prepare 61 = .ok (.getfield 26, 3) := by decide +kernel
theorem dX3_prepare_64 : decode cX3_prepare 64 = .ok (.arraylength, 1) := by decide +kernel
theorem dX3_prepare_65 : decode cX3_prepare 65 = .ok (.if_icmp .le 13, 3) := by decide +kernel
theorem dX3_prepare_68 : decode cX3_prepare 68 = .ok (.aload_n 0, 1) := by decide +kernel
theorem dX3_prepare_69 : decode cX3_prepare 69 = .ok (.iload_n 3, 1) := by decide +kernel
theorem dX3_prepare_70 : decode cX3_prepare 70 = .ok (.newarray .long, 2) := by decide +kernel
theorem dX3_prepare_72 : decode cX3_prepare 72 = .ok (.putfield 26, 3) := by decide +kernel
theorem dX3_prepare_75 : decode cX3_prepare 75 = .ok (.goto 13, 3) := by decide +kernel
theorem dX3_prepare_78 : decode cX3_prepare 78 = .ok (.aload_n 0, 1) := by decide +kernel
theorem dX3_prepare_79 : decode cX3_prepare 79 = .ok (.getfield 26, 3) := by decide +kernel
theorem dX3_prepare_82 : decode cX3_prepare 82 = .ok (.iconst 0, 1) := by decide +kernel
theorem dX3_prepare_83 : decode cX3_prepare 83 = .ok (.iload_n 3, 1) := by decide +kernel
theorem dX3_prepare_84 : decode cX3_prepare 84 = .ok (.lconst 0, 1) := by decide +kernel
theorem dX3_prepare_85 : decode cX3_prepare 85 = .ok (.invokestatic 47, 3) := by decide +kernel
theorem dX3_prepare_88 : decode cX3_prepare 88 = .ok (.iconst 0, 1) := by decide +kernel
theorem dX3_prepare_89 : decode cX3_prepare 89 = .ok (.istore 4, 2) := by decide +kernel
theorem dX3_prepare_91 : decode cX3_prepare 91 = .ok (.iload 4, 2) := by decide +kernel
theorem dX3_prepare_93 : decode cX3_prepare 93 = .ok (.iconst 5, 1) := by decide +kernel
theorem dX3_prepare_94 : decode cX3_prepare 94 = .ok (.if_icmp .ge 20, 3) := by decide +kernel
theorem dX3_prepare_97 : decode cX3_prepare 97 = .ok (.aload_n 0, 1) := by decide +kernel
theorem dX3_prepare_98 : decode cX3_prepare 98 = .ok (.getfield 23, 3) := by decide +kernel
theorem dX3_prepare_101 : decode cX3_prepare 101 = .ok (.iload 4, 2) := by decide +kernel
theorem dX3_prepare_103 : decode cX3_prepare 103 = .ok (.aaload, 1) := by decide +kernel
theorem dX3_prepare_104 : decode cX3_prepare 104 = .ok (.iconst 0, 1) := by decide +kernel
theorem dX3_prepare_105 : decode cX3_prepare 105 = .ok (.invokestatic 53, 3) := by decide +kernel
theorem dX3_prepare_108 : decode cX3_prepare 108 = .ok (.iinc 4 1, 3) := by decide +kernel
theorem dX3_prepare_111 : decode cX3_prepare 111 = .ok (.goto (-20), 3) := by decide +kernel
theorem dX3_prepare_114 : decode cX3_prepare 114 = .ok (.aload_n 0, 1) := by decide +kernel
theorem dX3_prepare_115 : decode cX3_prepare 115 = .ok (.iconst 1, 1) := by decide +kernel
theorem dX3_prepare_116 : decode cX3_prepare 116 = .ok (.putfield 34, 3) := by decide +kernel
theorem dX3_prepare_119 : decode cX3_prepare 119 = .ok (.return_, 1) := by decide +kernel
theorem dX3_startEmpty_0 : decode cX3_startEmpty 0 = .ok (.aload_n 0, 1) := by decide +kernel
theorem dX3_startEmpty_1 : decode cX3_startEmpty 1 = .ok (.invokevirtual 56, 3) := by decide +kernel
theorem dX3_startEmpty_4 : decode cX3_startEmpty 4 = .ok (.aload_n 0, 1) := by decide +kernel
theorem dX3_startEmpty_5 : decode cX3_startEmpty 5 = .ok (.getfield 15, 3) := by decide +kernel
theorem dX3_startEmpty_8 : decode cX3_startEmpty 8 = .ok (.iconst 1, 1) := by decide +kernel
theorem dX3_startEmpty_9 : decode cX3_startEmpty 9 = .ok (.invokestatic 53, 3) := by decide +kernel
theorem dX3_startEmpty_12 : decode cX3_startEmpty 12 = .ok (.aload_n 0, 1) := by decide +kernel
theorem dX3_startEmpty_13 : decode cX3_startEmpty 13 = .ok (.getfield 18, 3) := by decide +kernel
theorem dX3_startEmpty_16 : decode cX3_startEmpty 16 = .ok (.iconst 0, 1) := by decide +kernel
theorem dX3_startEmpty_17 : decode cX3_startEmpty 17 = .ok (.invokestatic 53, 3) := by decide +kernel
theorem dX3_startEmpty_20 : decode cX3_startEmpty 20 = .ok (.aload_n 0, 1) := by decide +kernel
theorem dX3_startEmpty_21 : decode cX3_startEmpty 21 = .ok (.iconst 0, 1) := by decide +kernel
theorem dX3_startEmpty_22 : decode cX3_startEmpty 22 = .ok (.putfield 59, 3) := by decide +kernel
theorem dX3_startEmpty_25 : decode cX3_startEmpty 25 = .ok (.aload_n 0, 1) := by decide +kernel
theorem dX3_startEmpty_26 : decode cX3_startEmpty 26 = .ok (.iconst 0, 1) := by decide +kernel
theorem dX3_startEmpty_27 : decode cX3_startEmpty 27 = .ok (.putfield 62, 3) := by decide +kernel
theorem dX3_startEmpty_30 : decode cX3_startEmpty 30 = .ok (.aload_n 0, 1) := by decide +kernel
theorem dX3_startEmpty_31 : decode cX3_startEmpty 31 = .ok (.iconst 0, 1) := by decide +kernel
theorem dX3_startEmpty_32 : decode cX3_startEmpty 32 = .ok (.putfield 65, 3) := by decide +kernel
theorem dX3_startEmpty_35 : decode cX3_startEmpty 35 = .ok (.aload_n 0, 1) := by decide +kernel
theorem dX3_startEmpty_36 : decode cX3_startEmpty 36 = .ok (.iconst 0, 1) := by decide +kernel
theorem dX3_startEmpty_37 : decode cX3_startEmpty 37 = .ok (.putfield 68, 3) := by decide +kernel
theorem dX3_startEmpty_40 : decode cX3_startEmpty 40 = .ok (.aload_n 0, 1) := by decide +kernel
theorem dX3_startEmpty_41 : decode cX3_startEmpty 41 = .ok (.iconst 0, 1) := by decide +kernel
theorem dX3_startEmpty_42 : decode cX3_startEmpty 42 = .ok (.putfield 71, 3) := by decide +kernel
theorem dX3_startEmpty_45 : decode cX3_startEmpty 45 = .ok (.return_, 1) := by decide +kernel
theorem dX3_start_0 : decode cX3_start 0 = .ok (.aload_n 0, 1) := by decide +kernel
theorem dX3_start_1 : decode cX3_start 1 = .ok (.invokevirtual 74, 3) := by decide +kernel
theorem dX3_start_4 : decode cX3_start 4 = .ok (.iconst 0, 1) := by decide +kernel
theorem dX3_start_5 : decode cX3_start 5 = .ok (.istore_n 2, 1) := by decide +kernel
theorem dX3_start_6 : decode cX3_start 6 = .ok (.iload_n 2, 1) := by decide +kernel
theorem dX3_start_7 : decode cX3_start 7 = .ok (.aload_n 1, 1) := by decide +kernel
theorem dX3_start_8 : decode cX3_start 8 = .ok (.getfield 77, 3) := by decide +kernel
theorem dX3_start_11 : decode cX3_start 11 = .ok (.if_icmp .ge 95, 3) := by decide +kernel
theorem dX3_start_14 : decode cX3_start 14 = .ok (.aload_n 1, 1) := by decide +kernel
theorem dX3_start_15 : decode cX3_start 15 = .ok (.getfield 82, 3) := by decide +kernel
theorem dX3_start_18 : decode cX3_start 18 = .ok (.iload_n 2, 1) := by decide +kernel
theorem dX3_start_19 : decode cX3_start 19 = .ok (.iaload, 1) := by decide +kernel
theorem dX3_start_20 : decode cX3_start 20 = .ok (.istore_n 3, 1) := by decide +kernel
theorem dX3_start_21 : decode cX3_start 21 = .ok (.aload_n 0, 1) := by decide +kernel
theorem dX3_start_22 : decode cX3_start 22 = .ok (.getfield 15, 3) := by decide +kernel
theorem dX3_start_25 : decode cX3_start 25 = .ok (.iload_n 3, 1) := by decide +kernel
theorem dX3_start_26 : decode cX3_start 26 = .ok (.iaload, 1) := by decide +kernel
theorem dX3_start_27 : decode cX3_start 27 = .ok (.iload_n 2, 1) := by decide +kernel
theorem dX3_start_28 : decode cX3_start 28 = .ok (.iconst 1, 1) := by decide +kernel
theorem dX3_start_29 : decode cX3_start 29 = .ok (.iand, 1) := by decide +kernel
theorem dX3_start_30 : decode cX3_start 30 = .ok (.iadd, 1) := by decide +kernel
theorem dX3_start_31 : decode cX3_start 31 = .ok (.istore 4, 2) := by decide +kernel
theorem dX3_start_33 : decode cX3_start 33 = .ok (.aload_n 0, 1) := by decide +kernel
theorem dX3_start_34 : decode cX3_start 34 = .ok (.dup, 1) := by decide +kernel
theorem dX3_start_35 : decode cX3_start 35 = .ok (.getfield 65, 3) := by decide +kernel
theorem dX3_start_38 : decode cX3_start 38 = .ok (.iload 4, 2) := by decide +kernel
theorem dX3_start_40 : decode cX3_start 40 = .ok (.aload_n 0, 1) := by decide +kernel
theorem dX3_start_41 : decode cX3_start 41 = .ok (.getfield 9, 3) := by decide +kernel
theorem dX3_start_44 : decode cX3_start 44 = .ok (.iload_n 3, 1) := by decide +kernel
theorem dX3_start_45 : decode cX3_start 45 = .ok (.iaload, 1) := by decide +kernel
theorem dX3_start_46 : decode cX3_start 46 = .ok (.imul, 1) := by decide +kernel
theorem dX3_start_47 : decode cX3_start 47 = .ok (.iadd, 1) := by decide +kernel
theorem dX3_start_48 : decode cX3_start 48 = .ok (.putfield 65, 3) := by decide +kernel
theorem dX3_start_51 : decode cX3_start 51 = .ok (.aload_n 0, 1) := by decide +kernel
theorem dX3_start_52 : decode cX3_start 52 = .ok (.dup, 1) := by decide +kernel
theorem dX3_start_53 : decode cX3_start 53 = .ok (.getfield 68, 3) := by decide +kernel
theorem dX3_start_56 : decode cX3_start 56 = .ok (.iload 4, 2) := by decide +kernel
theorem dX3_start_58 : decode cX3_start 58 = .ok (.aload_n 0, 1) := by decide +kernel
theorem dX3_start_59 : decode cX3_start 59 = .ok (.getfield 9, 3) := by decide +kernel
theorem dX3_start_62 : decode cX3_start 62 = .ok (.aload_n 0, 1) := by decide +kernel
theorem dX3_start_63 : decode cX3_start 63 = .ok (.getfield 30, 3) := by decide +kernel
theorem dX3_start_66 : decode cX3_start 66 = .ok (.getfield 44, 3) := by decide +kernel
theorem dX3_start_69 : decode cX3_start 69 = .ok (.iconst 1, 1) := by decide +kernel
theorem dX3_start_70 : decode cX3_start 70 = .ok (.isub, 1) := by decide +kernel
theorem dX3_start_71 : decode cX3_start 71 = .ok (.iload_n 3, 1) := by decide +kernel
theorem dX3_start_72 : decode cX3_start 72 = .ok (.isub, 1) := by decide +kernel
theorem dX3_start_73 : decode cX3_start 73 = .ok (.iaload, 1) := by decide +kernel
theorem dX3_start_74 : decode cX3_start 74 = .ok (.imul, 1) := by decide +kernel
theorem dX3_start_75 : decode cX3_start 75 = .ok (.iadd, 1) := by decide +kernel
theorem dX3_start_76 : decode cX3_start 76 = .ok (.putfield 68, 3) := by decide +kernel
theorem dX3_start_79 : decode cX3_start 79 = .ok (.aload_n 0, 1) := by decide +kernel
theorem dX3_start_80 : decode cX3_start 80 = .ok (.getfield 15, 3) := by decide +kernel
theorem dX3_start_83 : decode cX3_start 83 = .ok (.iload_n 3, 1) := by decide +kernel
theorem dX3_start_84 : decode cX3_start 84 = .ok (.dup2, 1) := by decide +kernel
theorem dX3_start_85 : decode cX3_start 85 = .ok (.iaload, 1) := by decide +kernel
theorem dX3_start_86 : decode cX3_start 86 = .ok (.iload 4, 2) := by decide +kernel
theorem dX3_start_88 : decode cX3_start 88 = .ok (.iadd, 1) := by decide +kernel
theorem dX3_start_89 : decode cX3_start 89 = .ok (.iastore, 1) := by decide +kernel
theorem dX3_start_90 : decode cX3_start 90 = .ok (.aload_n 0, 1) := by decide +kernel
theorem dX3_start_91 : decode cX3_start 91 = .ok (.getfield 18, 3) := by decide +kernel
theorem dX3_start_94 : decode cX3_start 94 = .ok (.iload_n 3, 1) := by decide +kernel
theorem dX3_start_95 : decode cX3_start 95 = .ok (.dup2, 1) := by decide +kernel
theorem dX3_start_96 : decode cX3_start 96 = .ok (.iaload, 1) := by decide +kernel
theorem dX3_start_97 : decode cX3_start 97 = .ok (.iconst 1, 1) := by decide +kernel
theorem dX3_start_98 : decode cX3_start 98 = .ok (.iadd, 1) := by decide +kernel
theorem dX3_start_99 : decode cX3_start 99 = .ok (.iastore, 1) := by decide +kernel
theorem dX3_start_100 : decode cX3_start 100 = .ok (.iinc 2 1, 3) := by decide +kernel
theorem dX3_start_103 : decode cX3_start 103 = .ok (.goto (-97), 3) := by decide +kernel
theorem dX3_start_106 : decode cX3_start 106 = .ok (.aload_n 0, 1) := by decide +kernel
theorem dX3_start_107 : decode cX3_start 107 = .ok (.aload_n 1, 1) := by decide +kernel
theorem dX3_start_108 : decode cX3_start 108 = .ok (.getfield 85, 3) := by decide +kernel
theorem dX3_start_111 : decode cX3_start 111 = .ok (.aload_n 1, 1) := by decide +kernel
theorem dX3_start_112 : decode cX3_start 112 = .ok (.invokevirtual 88, 3) := by decide +kernel
theorem dX3_start_115 : decode cX3_start 115 = .ok (.iaload, 1) := by decide +kernel
theorem dX3_start_116 : decode cX3_start 116 = .ok (.putfield 59, 3) := by decide +kernel
theorem dX3_start_119 : decode cX3_start 119 = .ok (.aload_n 0, 1) := by decide +kernel
theorem dX3_start_120 : decode cX3_start 120 = .ok (.aload_n 1, 1) := by decide +kernel
theorem dX3_start_121 : decode cX3_start 121 = .ok (.getfield 85, 3) := by decide +kernel
theorem dX3_start_124 : decode cX3_start 124 = .ok (.iconst 1, 1) := by decide +kernel
theorem dX3_start_125 : decode cX3_start 125 = .ok (.aload_n 1, 1) := by decide +kernel
theorem dX3_start_126 : decode cX3_start 126 = .ok (.invokevirtual 88, 3) := by decide +kernel
theorem dX3_start_129 : decode cX3_start 129 = .ok (.isub, 1) := by decide +kernel
theorem dX3_start_130 : decode cX3_start 130 = .ok (.iaload, 1) := by decide +kernel
theorem dX3_start_131 : decode cX3_start 131 = .ok (.putfield 62, 3) := by decide +kernel
theorem dX3_start_134 : decode cX3_start 134 = .ok (.aload_n 0, 1) := by decide +kernel
theorem dX3_start_135 : decode cX3_start 135 = .ok (.aload_n 1, 1) := by decide +kernel
theorem dX3_start_136 : decode cX3_start 136 = .ok (.getfield 77, 3) := by decide +kernel
theorem dX3_start_139 : decode cX3_start 139 = .ok (.putfield 71, 3) := by decide +kernel
theorem dX3_start_142 : decode cX3_start 142 = .ok (.return_, 1) := by decide +kernel
theorem dX3_worthOfStart_0 : decode cX3_worthOfStart 0 = .ok (.aload_n 0, 1) := by decide +kernel
theorem dX3_worthOfStart_1 : decode cX3_worthOfStart 1 = .ok (.aload_n 0, 1) := by decide +kernel
theorem dX3_worthOfStart_2 : decode cX3_worthOfStart 2 = .ok (.getfield 59, 3) := by decide +kernel
theorem dX3_worthOfStart_5 : decode cX3_worthOfStart 5 = .ok (.aload_n 0, 1) := by decide +kernel
theorem dX3_worthOfStart_6 : decode cX3_worthOfStart 6 = .ok (.getfield 62, 3) := by decide +kernel
theorem dX3_worthOfStart_9 : decode cX3_worthOfStart 9 = .ok (.aload_n 0, 1) := by decide +kernel
theorem dX3_worthOfStart_10 : decode cX3_worthOfStart 10 = .ok (.getfield 65, 3) := by decide +kernel
theorem dX3_worthOfStart_13 : decode cX3_worthOfStart 13 = .ok (.aload_n 0, 1) := by decide +kernel
theorem dX3_worthOfStart_14 : decode cX3_worthOfStart 14 = .ok (.getfield 68, 3) := by decide +kernel
theorem dX3_worthOfStart_17 : decode cX3_worthOfStart 17 = .ok (.aload_n 0, 1) := by decide +kernel
theorem dX3_worthOfStart_18 : decode cX3_worthOfStart 18 = .ok (.getfield 71, 3) := by decide +kernel
theorem dX3_worthOfStart_21 : decode cX3_worthOfStart 21 = .ok (.invokevirtual 92, 3) := by decide +kernel
theorem dX3_worthOfStart_24 : decode cX3_worthOfStart 24 = .ok (.ireturn, 1) := by decide +kernel
theorem dX3_worthOfMove_0 : decode cX3_worthOfMove 0 = .ok (.aload_n 0, 1) := by decide +kernel
theorem dX3_worthOfMove_1 : decode cX3_worthOfMove 1 = .ok (.iload_n 1, 1) := by decide +kernel
theorem dX3_worthOfMove_2 : decode cX3_worthOfMove 2 = .ok (.aload_n 0, 1) := by decide +kernel
theorem dX3_worthOfMove_3 : decode cX3_worthOfMove 3 = .ok (.getfield 59, 3) := by decide +kernel
theorem dX3_worthOfMove_6 : decode cX3_worthOfMove 6 = .ok (.aload_n 0, 1) := by decide +kernel
theorem dX3_worthOfMove_7 : decode cX3_worthOfMove 7 = .ok (.getfield 62, 3) := by decide +kernel
theorem dX3_worthOfMove_10 : decode cX3_worthOfMove 10 = .ok (.aload_n 0, 1) := by decide +kernel
theorem dX3_worthOfMove_11 : decode cX3_worthOfMove 11 = .ok (.getfield 65, 3) := by decide +kernel
theorem dX3_worthOfMove_14 : decode cX3_worthOfMove 14 = .ok (.aload_n 0, 1) := by decide +kernel
theorem dX3_worthOfMove_15 : decode cX3_worthOfMove 15 = .ok (.getfield 68, 3) := by decide +kernel
theorem dX3_worthOfMove_18 : decode cX3_worthOfMove 18 = .ok (.aload_n 0, 1) := by decide +kernel
theorem dX3_worthOfMove_19 : decode cX3_worthOfMove 19 = .ok (.getfield 71, 3) := by decide +kernel
theorem dX3_worthOfMove_22 : decode cX3_worthOfMove 22 = .ok (.invokevirtual 96, 3) := by decide +kernel
theorem dX3_worthOfMove_25 : decode cX3_worthOfMove 25 = .ok (.ireturn, 1) := by decide +kernel
theorem dX3_tally_0 : decode cX3_tally 0 = .ok (.aload_n 0, 1) := by decide +kernel
theorem dX3_tally_1 : decode cX3_tally 1 = .ok (.invokevirtual 74, 3) := by decide +kernel
theorem dX3_tally_4 : decode cX3_tally 4 = .ok (.aload_n 0, 1) := by decide +kernel
theorem dX3_tally_5 : decode cX3_tally 5 = .ok (.invokevirtual 100, 3) := by decide +kernel
theorem dX3_tally_8 : decode cX3_tally 8 = .ok (.pop, 1) := by decide +kernel
theorem dX3_tally_9 : decode cX3_tally 9 = .ok (.iload_n 1, 1) := by decide +kernel
theorem dX3_tally_10 : decode cX3_tally 10 = .ok (.iconst 0, 1) := by decide +kernel
theorem dX3_tally_11 : decode cX3_tally 11 = .ok (.iconst 4, 1) := by decide +kernel
theorem dX3_tally_12 : decode cX3_tally 12 = .ok (.invokestatic 103, 3) := by decide +kernel
theorem dX3_tally_15 : decode cX3_tally 15 = .ok (.ifCond .eq 24, 3) := by decide +kernel
theorem dX3_tally_18 : decode cX3_tally 18 = .ok (.iload_n 2, 1) := by decide +kernel
theorem dX3_tally_19 : decode cX3_tally 19 = .ok (.iconst 0, 1) := by decide +kernel
theorem dX3_tally_20 : decode cX3_tally 20 = .ok (.bipush 16, 2) := by decide +kernel
theorem dX3_tally_22 : decode cX3_tally 22 = .ok (.invokestatic 103, 3) := by decide +kernel
theorem dX3_tally_25 : decode cX3_tally 25 = .ok (.ifCond .eq 14, 3) := by decide +kernel
theorem dX3_tally_28 : decode cX3_tally 28 = .ok (.aload_n 0, 1) := by decide +kernel
theorem dX3_tally_29 : decode cX3_tally 29 = .ok (.getfield 23, 3) := by decide +kernel
theorem dX3_tally_32 : decode cX3_tally 32 = .ok (.iload_n 1, 1) := by decide +kernel
theorem dX3_tally_33 : decode cX3_tally 33 = .ok (.aaload, 1) := by decide +kernel
theorem dX3_tally_34 : decode cX3_tally 34 = .ok (.iload_n 2, 1) := by decide +kernel
theorem dX3_tally_35 : decode cX3_tally 35 = .ok (.iaload, 1) := by decide +kernel
theorem dX3_tally_36 : decode cX3_tally 36 = .ok (.goto 4, 3) := by decide +kernel
theorem dX3_tally_39 : decode cX3_tally 39 = .ok (.iconst 0, 1) := by decide +kernel
theorem dX3_tally_40 : decode cX3_tally 40 = .ok (.ireturn, 1) := by decide +kernel
theorem dX3_search_0 : decode cX3_search 0 = .ok (.aload_n 0, 1) := by decide +kernel
theorem dX3_search_1 : decode cX3_search 1 = .ok (.iload_n 3, 1) := by decide +kernel
theorem dX3_search_2 : decode cX3_search 2 = .ok (.iload 4, 2) := by decide +kernel
theorem dX3_search_4 : decode cX3_search 4 = .ok (.invokestatic 107, 3) := by decide +kernel
theorem dX3_search_7 : decode cX3_search 7 = .ok (.invokevirtual 113, 3) := by decide +kernel
theorem dX3_search_10 : decode cX3_search 10 = .ok (.istore 6, 2) := by decide +kernel
theorem dX3_search_12 : decode cX3_search 12 = .ok (.iload 6, 2) := by decide +kernel
theorem dX3_search_14 : decode cX3_search 14 = .ok (.ifCond .eq 9, 3) := by decide +kernel
theorem dX3_search_17 : decode cX3_search 17 = .ok (.iload 6, 2) := by decide +kernel
theorem dX3_search_19 : decode cX3_search 19 = .ok (.bipush 101, 2) := by decide +kernel
theorem dX3_search_21 : decode cX3_search 21 = .ok (.isub, 1) := by decide +kernel
theorem dX3_search_22 : decode cX3_search 22 = .ok (.ireturn, 1) := by decide +kernel
theorem dX3_search_23 : decode cX3_search 23 = .ok (.bipush (-100), 2) := by decide +kernel
theorem dX3_search_25 : decode cX3_search 25 = .ok (.istore 7, 2) := by decide +kernel
theorem dX3_search_27 : decode cX3_search 27 = .ok (.iconst 0, 1) := by decide +kernel
theorem dX3_search_28 : decode cX3_search 28 = .ok (.istore 8, 2) := by decide +kernel
theorem dX3_search_30 : decode cX3_search 30 = .ok (.iload 8, 2) := by decide +kernel
theorem dX3_search_32 : decode cX3_search 32 = .ok (.aload_n 0, 1) := by decide +kernel
theorem dX3_search_33 : decode cX3_search 33 = .ok (.getfield 30, 3) := by decide +kernel
theorem dX3_search_36 : decode cX3_search 36 = .ok (.getfield 44, 3) := by decide +kernel
theorem dX3_search_39 : decode cX3_search 39 = .ok (.if_icmp .ge 52, 3) := by decide +kernel
theorem dX3_search_42 : decode cX3_search 42 = .ok (.aload_n 0, 1) := by decide +kernel
theorem dX3_search_43 : decode cX3_search 43 = .ok (.getfield 18, 3) := by decide +kernel
theorem dX3_search_46 : decode cX3_search 46 = .ok (.iload 8, 2) := by decide +kernel
theorem dX3_search_48 : decode cX3_search 48 = .ok (.iaload, 1) := by decide +kernel
theorem dX3_search_49 : decode cX3_search 49 = .ok (.aload_n 0, 1) := by decide +kernel
theorem dX3_search_50 : decode cX3_search 50 = .ok (.getfield 30, 3) := by decide +kernel
theorem dX3_search_53 : decode cX3_search 53 = .ok (.getfield 38, 3) := by decide +kernel
theorem dX3_search_56 : decode cX3_search 56 = .ok (.if_icmp .ge 29, 3) := by decide +kernel
theorem dX3_search_59 : decode cX3_search 59 = .ok (.aload_n 0, 1) := by decide +kernel
theorem dX3_search_60 : decode cX3_search 60 = .ok (.iload 8, 2) := by decide +kernel
theorem dX3_search_62 : decode cX3_search 62 = .ok (.iload_n 1, 1) := by decide +kernel
theorem dX3_search_63 : decode cX3_search 63 = .ok (.iload_n 2, 1) := by decide +kernel
theorem dX3_search_64 : decode cX3_search 64 = .ok (.iload_n 3, 1) := by decide +kernel
theorem dX3_search_65 : decode cX3_search 65 = .ok (.iload 4, 2) := by decide +kernel
theorem dX3_search_67 : decode cX3_search 67 = .ok (.iload 5, 2) := by decide +kernel
theorem dX3_search_69 : decode cX3_search 69 = .ok (.invokevirtual 96, 3) := by decide +kernel
theorem dX3_search_72 : decode cX3_search 72 = .ok (.istore 9, 2) := by decide +kernel
theorem dX3_search_74 : decode cX3_search 74 = .ok (.iload 9, 2) := by decide +kernel
theorem dX3_search_76 : decode cX3_search 76 = .ok (.iload 7, 2) := by decide +kernel
theorem dX3_search_78 : decode cX3_search 78 = .ok (.if_icmp .le 7, 3) := by decide +kernel
theorem dX3_search_81 : decode cX3_search 81 = .ok (.iload 9, 2) := by decide +kernel
theorem dX3_search_83 : decode cX3_search 83 = .ok (.istore 7, 2) := by decide +kernel
theorem dX3_search_85 : decode cX3_search 85 = .ok (.iinc 8 1, 3) := by decide +kernel
theorem dX3_search_88 : decode cX3_search 88 = .ok (.goto (-58), 3) := by decide +kernel
theorem dX3_search_91 : decode cX3_search 91 = .ok (.aload_n 0, 1) := by decide +kernel
theorem dX3_search_92 : decode cX3_search 92 = .ok (.iload_n 3, 1) := by decide +kernel
theorem dX3_search_93 : decode cX3_search 93 = .ok (.iload 4, 2) := by decide +kernel
theorem dX3_search_95 : decode cX3_search 95 = .ok (.iload 5, 2) := by decide +kernel
theorem dX3_search_97 : decode cX3_search 97 = .ok (.iload 7, 2) := by decide +kernel
theorem dX3_search_99 : decode cX3_search 99 = .ok (.bipush 101, 2) := by decide +kernel
theorem dX3_search_101 : decode cX3_search 101 = .ok (.iadd, 1) := by decide +kernel
theorem dX3_search_102 : decode cX3_search 102 = .ok (.invokevirtual 117, 3) := by decide +kernel
theorem dX3_search_105 : decode cX3_search 105 = .ok (.iload 7, 2) := by decide +kernel
theorem dX3_search_107 : decode cX3_search 107 = .ok (.ireturn, 1) := by decide +kernel
theorem dX3_tryColumn_0 : decode cX3_tryColumn 0 = .ok (.aload_n 0, 1) := by decide +kernel
theorem dX3_tryColumn_1 : decode cX3_tryColumn 1 = .ok (.getfield 15, 3) := by decide +kernel
theorem dX3_tryColumn_4 : decode cX3_tryColumn 4 = .ok (.iload_n 1, 1) := by decide +kernel
theorem dX3_tryColumn_5 : decode cX3_tryColumn 5 = .ok (.iaload, 1) := by decide +kernel
theorem dX3_tryColumn_6 : decode cX3_tryColumn 6 = .ok (.istore 7, 2) := by decide +kernel
theorem dX3_tryColumn_8 : decode cX3_tryColumn 8 = .ok (.iload 7, 2) := by decide +kernel
theorem dX3_tryColumn_10 : decode cX3_tryColumn 10 = .ok (.iload 6, 2) := by decide +kernel
theorem dX3_tryColumn_12 : decode cX3_tryColumn 12 = .ok (.iconst 1, 1) := by decide +kernel
theorem dX3_tryColumn_13 : decode cX3_tryColumn 13 = .ok (.iand, 1) := by decide +kernel
theorem dX3_tryColumn_14 : decode cX3_tryColumn 14 = .ok (.iadd, 1) := by decide +kernel
theorem dX3_tryColumn_15 : decode cX3_tryColumn 15 = .ok (.istore 8, 2) := by decide +kernel
theorem dX3_tryColumn_17 : decode cX3_tryColumn 17 = .ok (.iload 4, 2) := by decide +kernel
theorem dX3_tryColumn_19 : decode cX3_tryColumn 19 = .ok (.iload 8, 2) := by decide +kernel
theorem dX3_tryColumn_21 : decode cX3_tryColumn 21 = .ok (.aload_n 0, 1) := by decide +kernel
theorem dX3_tryColumn_22 : decode cX3_tryColumn 22 = .ok (.getfield 9, 3) := by decide +kernel
theorem dX3_tryColumn_25 : decode cX3_tryColumn 25 = .ok (.iload_n 1, 1) := by decide +kernel
theorem dX3_tryColumn_26 : decode cX3_tryColumn 26 = .ok (.iaload, 1) := by decide +kernel
theorem dX3_tryColumn_27 : decode cX3_tryColumn 27 = .ok (.imul, 1) := by decide +kernel
theorem dX3_tryColumn_28 : decode cX3_tryColumn 28 = .ok (.iadd, 1) := by decide +kernel
theorem dX3_tryColumn_29 : decode cX3_tryColumn 29 = .ok (.istore 9, 2) := by decide +kernel
theorem dX3_tryColumn_31 : decode cX3_tryColumn 31 = .ok (.iload 5, 2) := by decide +kernel
theorem dX3_tryColumn_33 : decode cX3_tryColumn 33 = .ok (.iload 8, 2) := by decide +kernel
theorem dX3_tryColumn_35 : decode cX3_tryColumn 35 = .ok (.aload_n 0, 1) := by decide +kernel
theorem dX3_tryColumn_36 : decode cX3_tryColumn 36 = .ok (.getfield 9, 3) := by decide +kernel
theorem dX3_tryColumn_39 : decode cX3_tryColumn 39 = .ok (.aload_n 0, 1) := by decide +kernel
theorem dX3_tryColumn_40 : decode cX3_tryColumn 40 = .ok (.getfield 30, 3) := by decide +kernel
theorem dX3_tryColumn_43 : decode cX3_tryColumn 43 = .ok (.getfield 44, 3) := by decide +kernel
theorem dX3_tryColumn_46 : decode cX3_tryColumn 46 = .ok (.iconst 1, 1) := by decide +kernel
theorem dX3_tryColumn_47 : decode cX3_tryColumn 47 = .ok (.isub, 1) := by decide +kernel
theorem dX3_tryColumn_48 : decode cX3_tryColumn 48 = .ok (.iload_n 1, 1) := by decide +kernel
theorem dX3_tryColumn_49 : decode cX3_tryColumn 49 = .ok (.isub, 1) := by decide +kernel
theorem dX3_tryColumn_50 : decode cX3_tryColumn 50 = .ok (.iaload, 1) := by decide +kernel
theorem dX3_tryColumn_51 : decode cX3_tryColumn 51 = .ok (.imul, 1) := by decide +kernel
theorem dX3_tryColumn_52 : decode cX3_tryColumn 52 = .ok (.iadd, 1) := by decide +kernel
theorem dX3_tryColumn_53 : decode cX3_tryColumn 53 = .ok (.istore 10, 2) := by decide +kernel
theorem dX3_tryColumn_55 : decode cX3_tryColumn 55 = .ok (.aload_n 0, 1) := by decide +kernel
theorem dX3_tryColumn_56 : decode cX3_tryColumn 56 = .ok (.getfield 30, 3) := by decide +kernel
theorem dX3_tryColumn_59 : decode cX3_tryColumn 59 = .ok (.getfield 44, 3) := by decide +kernel
theorem dX3_tryColumn_62 : decode cX3_tryColumn 62 = .ok (.aload_n 0, 1) := by decide +kernel
theorem dX3_tryColumn_63 : decode cX3_tryColumn 63 = .ok (.getfield 18, 3) := by decide +kernel
theorem dX3_tryColumn_66 : decode cX3_tryColumn 66 = .ok (.iload_n 1, 1) := by decide +kernel
theorem dX3_tryColumn_67 : decode cX3_tryColumn 67 = .ok (.iaload, 1) := by decide +kernel
theorem dX3_tryColumn_68 : decode cX3_tryColumn 68 = .ok (.imul, 1) := by decide +kernel
theorem dX3_tryColumn_69 : decode cX3_tryColumn 69 = .ok (.iload_n 1, 1) := by decide +kernel
theorem dX3_tryColumn_70 : decode cX3_tryColumn 70 = .ok (.iadd, 1) := by decide +kernel
theorem dX3_tryColumn_71 : decode cX3_tryColumn 71 = .ok (.istore 11, 2) := by decide +kernel
theorem dX3_tryColumn_73 : decode cX3_tryColumn 73 = .ok (.iload_n 2, 1) := by decide +kernel
theorem dX3_tryColumn_74 : decode cX3_tryColumn 74 = .ok (.iconst 1, 1) := by decide +kernel
theorem dX3_tryColumn_75 : decode cX3_tryColumn 75 = .ok (.iload 11, 2) := by decide +kernel
theorem dX3_tryColumn_77 : decode cX3_tryColumn 77 = .ok (.ishl, 1) := by decide +kernel
theorem dX3_tryColumn_78 : decode cX3_tryColumn 78 = .ok (.ior, 1) := by decide +kernel
theorem dX3_tryColumn_79 : decode cX3_tryColumn 79 = .ok (.istore 12, 2) := by decide +kernel
theorem dX3_tryColumn_81 : decode cX3_tryColumn 81 = .ok (.aload_n 0, 1) := by decide +kernel
theorem dX3_tryColumn_82 : decode cX3_tryColumn 82 = .ok (.getfield 30, 3) := by decide +kernel
theorem dX3_tryColumn_85 : decode cX3_tryColumn 85 = .ok (.iload 11, 2) := by decide +kernel
theorem dX3_tryColumn_87 : decode cX3_tryColumn 87 = .ok (.iload 12, 2) := by decide +kernel
theorem dX3_tryColumn_89 : decode cX3_tryColumn 89 = .ok (.invokevirtual 121, 3) := by decide +kernel
theorem dX3_tryColumn_92 : decode cX3_tryColumn 92 = .ok (.ifCond .eq 21, 3) := by decide +kernel
theorem dX3_tryColumn_95 : decode cX3_tryColumn 95 = .ok (.aload_n 0, 1) := by decide +kernel
theorem dX3_tryColumn_96 : decode cX3_tryColumn 96 = .ok (.iload 9, 2) := by decide +kernel
theorem dX3_tryColumn_98 : decode cX3_tryColumn 98 = .ok (.iload 10, 2) := by decide +kernel
theorem dX3_tryColumn_100 : decode cX3_tryColumn 100 = .ok (.iload 6, 2) := by decide +kernel
theorem dX3_tryColumn_102 : decode cX3_tryColumn 102 = .ok (.iconst 1, 1) := by decide +kernel
theorem dX3_tryColumn_103 : decode cX3_tryColumn 103 = .ok (.iadd, 1) := by decide +kernel
theorem dX3_tryColumn_104 : decode cX3_tryColumn 104 = .ok (.sipush 254, 3) := by decide +kernel
theorem dX3_tryColumn_107 : decode cX3_tryColumn 107 = .ok (.invokevirtual 117, 3) := by decide +kernel
theorem dX3_tryColumn_110 : decode cX3_tryColumn 110 = .ok (.bipush 99, 2) := by decide +kernel
theorem dX3_tryColumn_112 : decode cX3_tryColumn 112 = .ok (.ireturn, 1) := by decide +kernel
theorem dX3_tryColumn_113 : decode cX3_tryColumn 113 = .ok (.iload 6, 2) := by decide +kernel
theorem dX3_tryColumn_115 : decode cX3_tryColumn 115 = .ok (.iconst 1, 1) := by decide +kernel
theorem dX3_tryColumn_116 : decode cX3_tryColumn 116 = .ok (.iadd, 1) := by decide +kernel
theorem dX3_tryColumn_117 : decode cX3_tryColumn 117 = .ok (.aload_n 0, 1) := by decide +kernel
theorem dX3_tryColumn_118 : decode cX3_tryColumn 118 = .ok (.getfield 30, 3) := by decide +kernel
theorem dX3_tryColumn_121 : decode cX3_tryColumn 121 = .ok (.getfield 125, 3) := by decide +kernel
theorem dX3_tryColumn_124 : decode cX3_tryColumn 124 = .ok (.if_icmp .lt 20, 3) := by decide +kernel
theorem dX3_tryColumn_127 : decode cX3_tryColumn 127 = .ok (.aload_n 0, 1) := by decide +kernel
theorem dX3_tryColumn_128 : decode cX3_tryColumn 128 = .ok (.iload 9, 2) := by decide +kernel
theorem dX3_tryColumn_130 : decode cX3_tryColumn 130 = .ok (.iload 10, 2) := by decide +kernel
theorem dX3_tryColumn_132 : decode cX3_tryColumn 132 = .ok (.iload 6, 2) := by decide +kernel
theorem dX3_tryColumn_134 : decode cX3_tryColumn 134 = .ok (.iconst 1, 1) := by decide +kernel
theorem dX3_tryColumn_135 : decode cX3_tryColumn 135 = .ok (.iadd, 1) := by decide +kernel
theorem dX3_tryColumn_136 : decode cX3_tryColumn 136 = .ok (.sipush 255, 3) := by decide +kernel
theorem dX3_tryColumn_139 : decode cX3_tryColumn 139 = .ok (.invokevirtual 117, 3) := by decide +kernel
theorem dX3_tryColumn_142 : decode cX3_tryColumn 142 = .ok (.iconst 0, 1) := by decide +kernel
theorem dX3_tryColumn_143 : decode cX3_tryColumn 143 = .ok (.ireturn, 1) := by decide +kernel
theorem dX3_tryColumn_144 : decode cX3_tryColumn 144 = .ok (.aload_n 0, 1) := by decide +kernel
theorem dX3_tryColumn_145 : decode cX3_tryColumn 145 = .ok (.getfield 15, 3) := by decide +kernel
theorem dX3_tryColumn_148 : decode cX3_tryColumn 148 = .ok (.iload_n 1, 1) := by decide +kernel
theorem dX3_tryColumn_149 : decode cX3_tryColumn 149 = .ok (.iload 7, 2) := by decide +kernel
theorem dX3_tryColumn_151 : decode cX3_tryColumn 151 = .ok (.iload 8, 2) := by decide +kernel
theorem dX3_tryColumn_153 : decode cX3_tryColumn 153 = .ok (.iadd, 1) := by decide +kernel
theorem dX3_tryColumn_154 : decode cX3_tryColumn 154 = .ok (.iastore, 1) := by decide +kernel
theorem dX3_tryColumn_155 : decode cX3_tryColumn 155 = .ok (.aload_n 0, 1) := by decide +kernel
theorem dX3_tryColumn_156 : decode cX3_tryColumn 156 = .ok (.getfield 18, 3) := by decide +kernel
theorem dX3_tryColumn_159 : decode cX3_tryColumn 159 = .ok (.iload_n 1, 1) := by decide +kernel
theorem dX3_tryColumn_160 : decode cX3_tryColumn 160 = .ok (.dup2, 1) := by decide +kernel
theorem dX3_tryColumn_161 : decode cX3_tryColumn 161 = .ok (.iaload, 1) := by decide +kernel
theorem dX3_tryColumn_162 : decode cX3_tryColumn 162 = .ok (.iconst 1, 1) := by decide +kernel
theorem dX3_tryColumn_163 : decode cX3_tryColumn 163 = .ok (.iadd, 1) := by decide +kernel
theorem dX3_tryColumn_164 : decode cX3_tryColumn 164 = .ok (.iastore, 1) := by decide +kernel
theorem dX3_tryColumn_165 : decode cX3_tryColumn 165 = .ok (.aload_n 0, 1) := by decide +kernel
theorem dX3_tryColumn_166 : decode cX3_tryColumn 166 = .ok (.iload_n 3, 1) := by decide +kernel
theorem dX3_tryColumn_167 : decode cX3_tryColumn 167 = .ok (.iload 12, 2) := by decide +kernel
theorem dX3_tryColumn_169 : decode cX3_tryColumn 169 = .ok (.iload 9, 2) := by decide +kernel
theorem dX3_tryColumn_171 : decode cX3_tryColumn 171 = .ok (.iload 10, 2) := by decide +kernel
theorem dX3_tryColumn_173 : decode cX3_tryColumn 173 = .ok (.iload 6, 2) := by decide +kernel
theorem dX3_tryColumn_175 : decode cX3_tryColumn 175 = .ok (.iconst 1, 1) := by decide +kernel
theorem dX3_tryColumn_176 : decode cX3_tryColumn 176 = .ok (.iadd, 1) := by decide +kernel
theorem dX3_tryColumn_177 : decode cX3_tryColumn 177 = .ok (.invokevirtual 92, 3) := by decide +kernel
theorem dX3_tryColumn_180 : decode cX3_tryColumn 180 = .ok (.istore 13, 2) := by decide +kernel
theorem dX3_tryColumn_182 : decode cX3_tryColumn 182 = .ok (.aload_n 0, 1) := by decide +kernel
theorem dX3_tryColumn_183 : decode cX3_tryColumn 183 = .ok (.getfield 18, 3) := by decide +kernel
theorem dX3_tryColumn_186 : decode cX3_tryColumn 186 = .ok (.iload_n 1, 1) := by decide +kernel
theorem dX3_tryColumn_187 : decode cX3_tryColumn 187 = .ok (.dup2, 1) := by decide +kernel
theorem dX3_tryColumn_188 : decode cX3_tryColumn 188 = .ok (.iaload, 1) := by decide +kernel
theorem dX3_tryColumn_189 : decode cX3_tryColumn 189 = .ok (.iconst 1, 1) := by decide +kernel
theorem dX3_tryColumn_190 : decode cX3_tryColumn 190 = .ok (.isub, 1) := by decide +kernel
theorem dX3_tryColumn_191 : decode cX3_tryColumn 191 = .ok (.iastore, 1) := by decide +kernel
theorem dX3_tryColumn_192 : decode cX3_tryColumn 192 = .ok (.aload_n 0, 1) := by decide +kernel
theorem dX3_tryColumn_193 : decode cX3_tryColumn 193 = .ok (.getfield 15, 3) := by decide +kernel
theorem dX3_tryColumn_196 : decode cX3_tryColumn 196 = .ok (.iload_n 1, 1) := by decide +kernel
theorem dX3_tryColumn_197 : decode cX3_tryColumn 197 = .ok (.iload 7, 2) := by decide +kernel
theorem dX3_tryColumn_199 : decode cX3_tryColumn 199 = .ok (.iastore, 1) := by decide +kernel
theorem dX3_tryColumn_200 : decode cX3_tryColumn 200 = .ok (.iload 13, 2) := by decide +kernel
theorem dX3_tryColumn_202 : decode cX3_tryColumn 202 = .ok (.invokestatic 128, 3) := by decide +kernel
theorem dX3_tryColumn_205 : decode cX3_tryColumn 205 = .ok (.ireturn, 1) := by decide +kernel
theorem dX3_seenFromAhead_0 : decode cX3_seenFromAhead 0 = .ok (.iload_n 0, 1) := by decide +kernel
theorem dX3_seenFromAhead_1 : decode cX3_seenFromAhead 1 = .ok (.ifCond .ne 5, 3) := by decide +kernel
theorem dX3_seenFromAhead_4 : decode cX3_seenFromAhead 4 = .ok (.iconst 0, 1) := by decide +kernel
theorem dX3_seenFromAhead_5 : decode cX3_seenFromAhead 5 = .ok (.ireturn, 1) := by decide +kernel
theorem dX3_seenFromAhead_6 : decode cX3_seenFromAhead 6 = .ok (.iload_n 0, 1) := by decide +kernel
theorem dX3_seenFromAhead_7 : decode cX3_seenFromAhead 7 = .ok (.ifCond .le 9, 3) := by decide +kernel
theorem dX3_seenFromAhead_10 : decode cX3_seenFromAhead 10 = .ok (.iconst 1, 1) := by decide +kernel
theorem dX3_seenFromAhead_11 : decode cX3_seenFromAhead 11 = .ok (.iload_n 0, 1) := by decide +kernel
theorem dX3_seenFromAhead_12 : decode cX3_seenFromAhead 12 = .ok (.isub, 1) := by decide +kernel
theorem dX3_seenFromAhead_13 : decode cX3_seenFromAhead 13 = .ok (.goto 6, 3) := by decide +kernel
theorem dX3_seenFromAhead_16 : decode cX3_seenFromAhead 16 = .ok (.iconst (-1), 1) := by decide +kernel
theorem dX3_seenFromAhead_17 : decode cX3_seenFromAhead 17 = .ok (.iload_n 0, 1) := by decide +kernel
theorem dX3_seenFromAhead_18 : decode cX3_seenFromAhead 18 = .ok (.isub, 1) := by decide +kernel
theorem dX3_seenFromAhead_19 : decode cX3_seenFromAhead 19 = .ok (.ireturn, 1) := by decide +kernel
theorem dX3_keptAt_0 : decode cX3_keptAt 0 = .ok (.iload_n 1, 1) := by decide +kernel
theorem dX3_keptAt_1 : decode cX3_keptAt 1 = .ok (.iconst 3, 1) := by decide +kernel
theorem dX3_keptAt_2 : decode cX3_keptAt 2 = .ok (.ishr, 1) := by decide +kernel
theorem dX3_keptAt_3 : decode cX3_keptAt 3 = .ok (.istore_n 2, 1) := by decide +kernel
theorem dX3_keptAt_4 : decode cX3_keptAt 4 = .ok (.iload_n 2, 1) := by decide +kernel
theorem dX3_keptAt_5 : decode cX3_keptAt 5 = .ok (.ifCond .lt 12, 3) := by decide +kernel
theorem dX3_keptAt_8 : decode cX3_keptAt 8 = .ok (.iload_n 2, 1) := by decide +kernel
theorem dX3_keptAt_9 : decode cX3_keptAt 9 = .ok (.aload_n 0, 1) := by decide +kernel
theorem dX3_keptAt_10 : decode cX3_keptAt 10 = .ok (.getfield 26, 3) := by decide +kernel
theorem dX3_keptAt_13 : decode cX3_keptAt 13 = .ok (.arraylength, 1) := by decide +kernel
theorem dX3_keptAt_14 : decode cX3_keptAt 14 = .ok (.if_icmp .lt 5, 3) := by decide +kernel
theorem dX3_keptAt_17 : decode cX3_keptAt 17 = .ok (.iconst 0, 1) := by decide +kernel
theorem dX3_keptAt_18 : decode cX3_keptAt 18 = .ok (.ireturn, 1) := by decide +kernel
theorem dX3_keptAt_19 : decode cX3_keptAt 19 = .ok (.aload_n 0, 1) := by decide +kernel
theorem dX3_keptAt_20 : decode cX3_keptAt 20 = .ok (.getfield 26, 3) := by decide +kernel
theorem dX3_keptAt_23 : decode cX3_keptAt 23 = .ok (.iload_n 2, 1) := by decide +kernel
theorem dX3_keptAt_24 : decode cX3_keptAt 24 = .ok (.laload, 1) := by decide +kernel
theorem dX3_keptAt_25 : decode cX3_keptAt 25 = .ok (.iload_n 1, 1) := by decide +kernel
theorem dX3_keptAt_26 : decode cX3_keptAt 26 = .ok (.bipush 7, 2) := by decide +kernel
theorem dX3_keptAt_28 : decode cX3_keptAt 28 = .ok (.iand, 1) := by decide +kernel
theorem dX3_keptAt_29 : decode cX3_keptAt 29 = .ok (.iconst 3, 1) := by decide +kernel
theorem dX3_keptAt_30 : decode cX3_keptAt 30 = .ok (.ishl, 1) := by decide +kernel
theorem dX3_keptAt_31 : decode cX3_keptAt 31 = .ok (.lushr, 1) := by decide +kernel
theorem dX3_keptAt_32 : decode cX3_keptAt 32 = .ok (.l2i, 1) := by decide +kernel
theorem dX3_keptAt_33 : decode cX3_keptAt 33 = .ok (.sipush 255, 3) := by decide +kernel
theorem dX3_keptAt_36 : decode cX3_keptAt 36 = .ok (.iand, 1) := by decide +kernel
theorem dX3_keptAt_37 : decode cX3_keptAt 37 = .ok (.ireturn, 1) := by decide +kernel
theorem dX3_keep_0 : decode cX3_keep 0 = .ok (.iload_n 1, 1) := by decide +kernel
theorem dX3_keep_1 : decode cX3_keep 1 = .ok (.iload_n 2, 1) := by decide +kernel
theorem dX3_keep_2 : decode cX3_keep 2 = .ok (.invokestatic 107, 3) := by decide +kernel
theorem dX3_keep_5 : decode cX3_keep 5 = .ok (.istore 5, 2) := by decide +kernel
theorem dX3_keep_7 : decode cX3_keep 7 = .ok (.iload 5, 2) := by decide +kernel
theorem dX3_keep_9 : decode cX3_keep 9 = .ok (.iconst 3, 1) := by decide +kernel
theorem dX3_keep_10 : decode cX3_keep 10 = .ok (.ishr, 1) := by decide +kernel
theorem dX3_keep_11 : decode cX3_keep 11 = .ok (.istore 6, 2) := by decide +kernel
theorem dX3_keep_13 : decode cX3_keep 13 = .ok (.iload 6, 2) := by decide +kernel
theorem dX3_keep_15 : decode cX3_keep 15 = .ok (.ifCond .lt 22, 3) := by decide +kernel
theorem dX3_keep_18 : decode cX3_keep 18 = .ok (.iload 6, 2) := by decide +kernel
theorem dX3_keep_20 : decode cX3_keep 20 = .ok (.aload_n 0, 1) := by decide +kernel
theorem dX3_keep_21 : decode cX3_keep 21 = .ok (.getfield 26, 3) := by decide +kernel
theorem dX3_keep_24 : decode cX3_keep 24 = .ok (.arraylength, 1) := by decide +kernel
theorem dX3_keep_25 : decode cX3_keep 25 = .ok (.if_icmp .ge 12, 3) := by decide +kernel
theorem dX3_keep_28 : decode cX3_keep 28 = .ok (.aload_n 0, 1) := by decide +kernel
theorem dX3_keep_29 : decode cX3_keep 29 = .ok (.iload 5, 2) := by decide +kernel
theorem dX3_keep_31 : decode cX3_keep 31 = .ok (.invokevirtual 113, 3) := by decide +kernel
theorem dX3_keep_34 : decode cX3_keep 34 = .ok (.ifCond .eq 4, 3) := by decide +kernel
theorem dX3_keep_37 : decode cX3_keep 37 = .ok (.return_, 1) := by decide +kernel
theorem dX3_keep_38 : decode cX3_keep 38 = .ok (.aload_n 0, 1) := by decide +kernel
theorem dX3_keep_39 : decode cX3_keep 39 = .ok (.getfield 26, 3) := by decide +kernel
theorem dX3_keep_42 : decode cX3_keep 42 = .ok (.iload 6, 2) := by decide +kernel
theorem dX3_keep_44 : decode cX3_keep 44 = .ok (.dup2, 1) := by decide +kernel
theorem dX3_keep_45 : decode cX3_keep 45 = .ok (.laload, 1) := by decide +kernel
theorem dX3_keep_46 : decode cX3_keep 46 = .ok (.iload 4, 2) := by decide +kernel
theorem dX3_keep_48 : decode cX3_keep 48 = .ok (.i2l, 1) := by decide +kernel
theorem dX3_keep_49 : decode cX3_keep 49 = .ok (.iload 5, 2) := by decide +kernel
theorem dX3_keep_51 : decode cX3_keep 51 = .ok (.bipush 7, 2) := by decide +kernel
theorem dX3_keep_53 : decode cX3_keep 53 = .ok (.iand, 1) := by decide +kernel
theorem dX3_keep_54 : decode cX3_keep 54 = .ok (.iconst 3, 1) := by decide +kernel
theorem dX3_keep_55 : decode cX3_keep 55 = .ok (.ishl, 1) := by decide +kernel
theorem dX3_keep_56 : decode cX3_keep 56 = .ok (.lshl, 1) := by decide +kernel
theorem dX3_keep_57 : decode cX3_keep 57 = .ok (.lor, 1) := by decide +kernel
theorem dX3_keep_58 : decode cX3_keep 58 = .ok (.lastore, 1) := by decide +kernel
theorem dX3_keep_59 : decode cX3_keep 59 = .ok (.iload_n 1, 1) := by decide +kernel
theorem dX3_keep_60 : decode cX3_keep 60 = .ok (.iload_n 2, 1) := by decide +kernel
theorem dX3_keep_61 : decode cX3_keep 61 = .ok (.if_icmp .ne 7, 3) := by decide +kernel
theorem dX3_keep_64 : decode cX3_keep 64 = .ok (.iconst 1, 1) := by decide +kernel
theorem dX3_keep_65 : decode cX3_keep 65 = .ok (.goto 4, 3) := by decide +kernel
theorem dX3_keep_68 : decode cX3_keep 68 = .ok (.iconst 2, 1) := by decide +kernel
theorem dX3_keep_69 : decode cX3_keep 69 = .ok (.istore 7, 2) := by decide +kernel
theorem dX3_keep_71 : decode cX3_keep 71 = .ok (.aload_n 0, 1) := by decide +kernel
theorem dX3_keep_72 : decode cX3_keep 72 = .ok (.getfield 23, 3) := by decide +kernel
theorem dX3_keep_75 : decode cX3_keep 75 = .ok (.iconst 0, 1) := by decide +kernel
theorem dX3_keep_76 : decode cX3_keep 76 = .ok (.aaload, 1) := by decide +kernel
theorem dX3_keep_77 : decode cX3_keep 77 = .ok (.iload_n 3, 1) := by decide +kernel
theorem dX3_keep_78 : decode cX3_keep 78 = .ok (.dup2, 1) := by decide +kernel
theorem dX3_keep_79 : decode cX3_keep 79 = .ok (.iaload, 1) := by decide +kernel
theorem dX3_keep_80 : decode cX3_keep 80 = .ok (.iload 7, 2) := by decide +kernel
theorem dX3_keep_82 : decode cX3_keep 82 = .ok (.iadd, 1) := by decide +kernel
theorem dX3_keep_83 : decode cX3_keep 83 = .ok (.iastore, 1) := by decide +kernel
theorem dX3_keep_84 : decode cX3_keep 84 = .ok (.iload 4, 2) := by decide +kernel
theorem dX3_keep_86 : decode cX3_keep 86 = .ok (.sipush 254, 3) := by decide +kernel
theorem dX3_keep_89 : decode cX3_keep 89 = .ok (.if_icmp .ne 19, 3) := by decide +kernel
theorem dX3_keep_92 : decode cX3_keep 92 = .ok (.aload_n 0, 1) := by decide +kernel
theorem dX3_keep_93 : decode cX3_keep 93 = .ok (.getfield 23, 3) := by decide +kernel
theorem dX3_keep_96 : decode cX3_keep 96 = .ok (.iconst 1, 1) := by decide +kernel
theorem dX3_keep_97 : decode cX3_keep 97 = .ok (.aaload, 1) := by decide +kernel
theorem dX3_keep_98 : decode cX3_keep 98 = .ok (.iload_n 3, 1) := by decide +kernel
theorem dX3_keep_99 : decode cX3_keep 99 = .ok (.dup2, 1) := by decide +kernel
theorem dX3_keep_100 : decode cX3_keep 100 = .ok (.iaload, 1) := by decide +kernel
theorem dX3_keep_101 : decode cX3_keep 101 = .ok (.iload 7, 2) := by decide +kernel
theorem dX3_keep_103 : decode cX3_keep 103 = .ok (.iadd, 1) := by decide +kernel
theorem dX3_keep_104 : decode cX3_keep 104 = .ok (.iastore, 1) := by decide +kernel
theorem dX3_keep_105 : decode cX3_keep 105 = .ok (.goto 28, 3) := by decide +kernel
theorem dX3_keep_108 : decode cX3_keep 108 = .ok (.iload 4, 2) := by decide +kernel
theorem dX3_keep_110 : decode cX3_keep 110 = .ok (.sipush 255, 3) := by decide +kernel
theorem dX3_keep_113 : decode cX3_keep 113 = .ok (.if_icmp .eq 20, 3) := by decide +kernel
theorem dX3_keep_116 : decode cX3_keep 116 = .ok (.aload_n 0, 1) := by decide +kernel
theorem dX3_keep_117 : decode cX3_keep 117 = .ok (.getfield 23, 3) := by decide +kernel
theorem dX3_keep_120 : decode cX3_keep 120 = .ok (.iload 4, 2) := by decide +kernel
theorem dX3_keep_122 : decode cX3_keep 122 = .ok (.invokestatic 131, 3) := by decide +kernel
theorem dX3_keep_125 : decode cX3_keep 125 = .ok (.aaload, 1) := by decide +kernel
theorem dX3_keep_126 : decode cX3_keep 126 = .ok (.iload_n 3, 1) := by decide +kernel
theorem dX3_keep_127 : decode cX3_keep 127 = .ok (.dup2, 1) := by decide +kernel
theorem dX3_keep_128 : decode cX3_keep 128 = .ok (.iaload, 1) := by decide +kernel
theorem dX3_keep_129 : decode cX3_keep 129 = .ok (.iload 7, 2) := by decide +kernel
theorem dX3_keep_131 : decode cX3_keep 131 = .ok (.iadd, 1) := by decide +kernel
theorem dX3_keep_132 : decode cX3_keep 132 = .ok (.iastore, 1) := by decide +kernel
theorem dX3_keep_133 : decode cX3_keep 133 = .ok (.return_, 1) := by decide +kernel
theorem dX3_shareOf_0 : decode cX3_shareOf 0 = .ok (.iload_n 0, 1) := by decide +kernel
theorem dX3_shareOf_1 : decode cX3_shareOf 1 = .ok (.bipush 101, 2) := by decide +kernel
theorem dX3_shareOf_3 : decode cX3_shareOf 3 = .ok (.if_icmp .ne 5, 3) := by decide +kernel
theorem dX3_shareOf_6 : decode cX3_shareOf 6 = .ok (.iconst 3, 1) := by decide +kernel
theorem dX3_shareOf_7 : decode cX3_shareOf 7 = .ok (.ireturn, 1) := by decide +kernel
theorem dX3_shareOf_8 : decode cX3_shareOf 8 = .ok (.iload_n 0, 1) := by decide +kernel
theorem dX3_shareOf_9 : decode cX3_shareOf 9 = .ok (.bipush 101, 2) := by decide +kernel
theorem dX3_shareOf_11 : decode cX3_shareOf 11 = .ok (.if_icmp .le 7, 3) := by decide +kernel
theorem dX3_shareOf_14 : decode cX3_shareOf 14 = .ok (.iconst 4, 1) := by decide +kernel
theorem dX3_shareOf_15 : decode cX3_shareOf 15 = .ok (.goto 4, 3) := by decide +kernel
theorem dX3_shareOf_18 : decode cX3_shareOf 18 = .ok (.iconst 2, 1) := by decide +kernel
theorem dX3_shareOf_19 : decode cX3_shareOf 19 = .ok (.ireturn, 1) := by decide +kernel
theorem dJ6_bitCount_0f7a4_0 : decode cJ6_bitCount_0f7a4 0 = .ok (.iload_n 0, 1) := by decide +kernel
theorem dJ6_bitCount_0f7a4_1 : decode cJ6_bitCount_0f7a4 1 = .ok (.iload_n 0, 1) := by decide +kernel
theorem dJ6_bitCount_0f7a4_2 : decode cJ6_bitCount_0f7a4 2 = .ok (.iconst 1, 1) := by decide +kernel
theorem dJ6_bitCount_0f7a4_3 : decode cJ6_bitCount_0f7a4 3 = .ok (.iushr, 1) := by decide +kernel
theorem dJ6_bitCount_0f7a4_4 : decode cJ6_bitCount_0f7a4 4 = .ok (.ldc_w 265, 3) := by decide +kernel
theorem dJ6_bitCount_0f7a4_7 : decode cJ6_bitCount_0f7a4 7 = .ok (.iand, 1) := by decide +kernel
theorem dJ6_bitCount_0f7a4_8 : decode cJ6_bitCount_0f7a4 8 = .ok (.isub, 1) := by decide +kernel
theorem dJ6_bitCount_0f7a4_9 : decode cJ6_bitCount_0f7a4 9 = .ok (.istore_n 0, 1) := by decide +kernel
theorem dJ6_bitCount_0f7a4_10 : decode cJ6_bitCount_0f7a4 10 = .ok (.iload_n 0, 1) := by decide +kernel
theorem dJ6_bitCount_0f7a4_11 : decode cJ6_bitCount_0f7a4 11 = .ok (.ldc_w 266, 3) := by decide +kernel
theorem dJ6_bitCount_0f7a4_14 : decode cJ6_bitCount_0f7a4 14 = .ok (.iand, 1) := by decide +kernel
theorem dJ6_bitCount_0f7a4_15 : decode cJ6_bitCount_0f7a4 15 = .ok (.iload_n 0, 1) := by decide +kernel
theorem dJ6_bitCount_0f7a4_16 : decode cJ6_bitCount_0f7a4 16 = .ok (.iconst 2, 1) := by decide +kernel
theorem dJ6_bitCount_0f7a4_17 : decode cJ6_bitCount_0f7a4 17 = .ok (.iushr, 1) := by decide +kernel
theorem dJ6_bitCount_0f7a4_18 : decode cJ6_bitCount_0f7a4 18 = .ok (.ldc_w 266, 3) := by decide +kernel
theorem dJ6_bitCount_0f7a4_21 : decode cJ6_bitCount_0f7a4 21 = .ok (.iand, 1) := by decide +kernel
theorem dJ6_bitCount_0f7a4_22 : decode cJ6_bitCount_0f7a4 22 = .ok (.iadd, 1) := by decide +kernel
theorem dJ6_bitCount_0f7a4_23 : decode cJ6_bitCount_0f7a4 23 = .ok (.istore_n 0, 1) := by decide +kernel
theorem dJ6_bitCount_0f7a4_24 : decode cJ6_bitCount_0f7a4 24 = .ok (.iload_n 0, 1) := by decide +kernel
theorem dJ6_bitCount_0f7a4_25 : decode cJ6_bitCount_0f7a4 25 = .ok (.iload_n 0, 1) := by decide +kernel
theorem dJ6_bitCount_0f7a4_26 : decode cJ6_bitCount_0f7a4 26 = .ok (.iconst 4, 1) := by decide +kernel
theorem dJ6_bitCount_0f7a4_27 : decode cJ6_bitCount_0f7a4 27 = .ok (.iushr, 1) := by decide +kernel
theorem dJ6_bitCount_0f7a4_28 : decode cJ6_bitCount_0f7a4 28 = .ok (.iadd, 1) := by decide +kernel
theorem dJ6_bitCount_0f7a4_29 : decode cJ6_bitCount_0f7a4 29 = .ok (.ldc_w 267, 3) := by decide +kernel
theorem dJ6_bitCount_0f7a4_32 : decode cJ6_bitCount_0f7a4 32 = .ok (.iand, 1) := by decide +kernel
theorem dJ6_bitCount_0f7a4_33 : decode cJ6_bitCount_0f7a4 33 = .ok (.istore_n 0, 1) := by decide +kernel
theorem dJ6_bitCount_0f7a4_34 : decode cJ6_bitCount_0f7a4 34 = .ok (.iload_n 0, 1) := by decide +kernel
theorem dJ6_bitCount_0f7a4_35 : decode cJ6_bitCount_0f7a4 35 = .ok (.iload_n 0, 1) := by decide +kernel
theorem dJ6_bitCount_0f7a4_36 : decode cJ6_bitCount_0f7a4 36 = .ok (.bipush 8, 2) := by decide +kernel
theorem dJ6_bitCount_0f7a4_38 : decode cJ6_bitCount_0f7a4 38 = .ok (.iushr, 1) := by decide +kernel
theorem dJ6_bitCount_0f7a4_39 : decode cJ6_bitCount_0f7a4 39 = .ok (.iadd, 1) := by decide +kernel
theorem dJ6_bitCount_0f7a4_40 : decode cJ6_bitCount_0f7a4 40 = .ok (.istore_n 0, 1) := by decide +kernel
theorem dJ6_bitCount_0f7a4_41 : decode cJ6_bitCount_0f7a4 41 = .ok (.iload_n 0, 1) := by decide +kernel
theorem dJ6_bitCount_0f7a4_42 : decode cJ6_bitCount_0f7a4 42 = .ok (.iload_n 0, 1) := by decide +kernel
theorem dJ6_bitCount_0f7a4_43 : decode cJ6_bitCount_0f7a4 43 = .ok (.bipush 16, 2) := by decide +kernel
theorem dJ6_bitCount_0f7a4_45 : decode cJ6_bitCount_0f7a4 45 = .ok (.iushr, 1) := by decide +kernel
theorem dJ6_bitCount_0f7a4_46 : decode cJ6_bitCount_0f7a4 46 = .ok (.iadd, 1) := by decide +kernel
theorem dJ6_bitCount_0f7a4_47 : decode cJ6_bitCount_0f7a4 47 = .ok (.istore_n 0, 1) := by decide +kernel
theorem dJ6_bitCount_0f7a4_48 : decode cJ6_bitCount_0f7a4 48 = .ok (.iload_n 0, 1) := by decide +kernel
theorem dJ6_bitCount_0f7a4_49 : decode cJ6_bitCount_0f7a4 49 = .ok (.bipush 63, 2) := by decide +kernel
theorem dJ6_bitCount_0f7a4_51 : decode cJ6_bitCount_0f7a4 51 = .ok (.iand, 1) := by decide +kernel
theorem dJ6_bitCount_0f7a4_52 : decode cJ6_bitCount_0f7a4 52 = .ok (.ireturn, 1) := by decide +kernel
theorem dJ7_rangeCheck_23922_0 : decode cJ7_rangeCheck_23922 0 = .ok (.iload_n 1, 1) := by decide +kernel
theorem dJ7_rangeCheck_23922_1 : decode cJ7_rangeCheck_23922 1 = .ok (.iload_n 2, 1) := by decide +kernel
theorem dJ7_rangeCheck_23922_2 : decode cJ7_rangeCheck_23922 2 = .ok (.if_icmp .le 44, 3) := by decide +kernel
theorem dJ7_rangeCheck_23922_5 : decode cJ7_rangeCheck_23922 5 = .ok (.new 43, 3) := by decide +kernel
theorem dJ7_rangeCheck_23922_8 : decode cJ7_rangeCheck_23922 8 = .ok (.dup, 1) := by decide +kernel
theorem dJ7_rangeCheck_23922_9 : decode cJ7_rangeCheck_23922 9 = .ok (.new 45, 3) := by decide +kernel
theorem dJ7_rangeCheck_23922_12 : decode cJ7_rangeCheck_23922 12 = .ok (.dup, 1) := by decide +kernel
theorem dJ7_rangeCheck_23922_13 : decode cJ7_rangeCheck_23922 13 = .ok (.invokespecial 47, 3) := by decide +kernel
theorem dJ7_rangeCheck_23922_16 : decode cJ7_rangeCheck_23922 16 = .ok (.ldc 48, 2) := by decide +kernel
theorem dJ7_rangeCheck_23922_18 : decode cJ7_rangeCheck_23922 18 = .ok (.invokevirtual 50, 3) := by decide +kernel
theorem dJ7_rangeCheck_23922_21 : decode cJ7_rangeCheck_23922 21 = .ok (.iload_n 1, 1) := by decide +kernel
theorem dJ7_rangeCheck_23922_22 : decode cJ7_rangeCheck_23922 22 = .ok (.invokevirtual 54, 3) := by decide +kernel
theorem dJ7_rangeCheck_23922_25 : decode cJ7_rangeCheck_23922 25 = .ok (.ldc 57, 2) := by decide +kernel
theorem dJ7_rangeCheck_23922_27 : decode cJ7_rangeCheck_23922 27 = .ok (.invokevirtual 50, 3) := by decide +kernel
theorem dJ7_rangeCheck_23922_30 : decode cJ7_rangeCheck_23922 30 = .ok (.iload_n 2, 1) := by decide +kernel
theorem dJ7_rangeCheck_23922_31 : decode cJ7_rangeCheck_23922 31 = .ok (.invokevirtual 54, 3) := by decide +kernel
theorem dJ7_rangeCheck_23922_34 : decode cJ7_rangeCheck_23922 34 = .ok (.ldc 59, 2) := by decide +kernel
theorem dJ7_rangeCheck_23922_36 : decode cJ7_rangeCheck_23922 36 = .ok (.invokevirtual 50, 3) := by decide +kernel
theorem dJ7_rangeCheck_23922_39 : decode cJ7_rangeCheck_23922 39 = .ok (.invokevirtual 61, 3) := by decide +kernel
theorem dJ7_rangeCheck_23922_42 : decode cJ7_rangeCheck_23922 42 = .ok (.invokespecial 65, 3) := by decide +kernel
theorem dJ7_rangeCheck_23922_45 : decode cJ7_rangeCheck_23922 45 = .ok (.athrow, 1) := by decide +kernel
theorem dJ7_rangeCheck_23922_46 : decode cJ7_rangeCheck_23922 46 = .ok (.iload_n 1, 1) := by decide +kernel
theorem dJ7_rangeCheck_23922_47 : decode cJ7_rangeCheck_23922 47 = .ok (.ifCond .ge 12, 3) := by decide +kernel
theorem dJ7_rangeCheck_23922_50 : decode cJ7_rangeCheck_23922 50 = .ok (.new 68, 3) := by decide +kernel
theorem dJ7_rangeCheck_23922_53 : decode cJ7_rangeCheck_23922 53 = .ok (.dup, 1) := by decide +kernel
theorem dJ7_rangeCheck_23922_54 : decode cJ7_rangeCheck_23922 54 = .ok (.iload_n 1, 1) := by decide +kernel
theorem dJ7_rangeCheck_23922_55 : decode cJ7_rangeCheck_23922 55 = .ok (.invokespecial 70, 3) := by decide +kernel
theorem dJ7_rangeCheck_23922_58 : decode cJ7_rangeCheck_23922 58 = .ok (.athrow, 1) := by decide +kernel
theorem dJ7_rangeCheck_23922_59 : decode cJ7_rangeCheck_23922 59 = .ok (.iload_n 2, 1) := by decide +kernel
theorem dJ7_rangeCheck_23922_60 : decode cJ7_rangeCheck_23922 60 = .ok (.iload_n 0, 1) := by decide +kernel
theorem dJ7_rangeCheck_23922_61 : decode cJ7_rangeCheck_23922 61 = .ok (.if_icmp .le 12, 3) := by decide +kernel
theorem dJ7_rangeCheck_23922_64 : decode cJ7_rangeCheck_23922 64 = .ok (.new 68, 3) := by decide +kernel
theorem dJ7_rangeCheck_23922_67 : decode cJ7_rangeCheck_23922 67 = .ok (.dup, 1) := by decide +kernel
theorem dJ7_rangeCheck_23922_68 : decode cJ7_rangeCheck_23922 68 = .ok (.iload_n 2, 1) := by decide +kernel
theorem dJ7_rangeCheck_23922_69 : decode cJ7_rangeCheck_23922 69 = .ok (.invokespecial 70, 3) := by decide +kernel
theorem dJ7_rangeCheck_23922_72 : decode cJ7_rangeCheck_23922 72 = .ok (.athrow, 1) := by decide +kernel
theorem dJ7_rangeCheck_23922_73 : decode cJ7_rangeCheck_23922 73 = .ok (.return_, 1) := by decide +kernel
theorem dJ7_fill_bad5a_0 : decode cJ7_fill_bad5a 0 = .ok (.aload_n 0, 1) := by decide +kernel
theorem dJ7_fill_bad5a_1 : decode cJ7_fill_bad5a 1 = .ok (.arraylength, 1) := by decide +kernel
theorem dJ7_fill_bad5a_2 : decode cJ7_fill_bad5a 2 = .ok (.iload_n 1, 1) := by decide +kernel
theorem dJ7_fill_bad5a_3 : decode cJ7_fill_bad5a 3 = .ok (.iload_n 2, 1) := by decide +kernel
theorem dJ7_fill_bad5a_4 : decode cJ7_fill_bad5a 4 = .ok (.invokestatic 13, 3) := by decide +kernel
theorem dJ7_fill_bad5a_7 : decode cJ7_fill_bad5a 7 = .ok (.iload_n 1, 1) := by decide +kernel
theorem dJ7_fill_bad5a_8 : decode cJ7_fill_bad5a 8 = .ok (.istore 5, 2) := by decide +kernel
theorem dJ7_fill_bad5a_10 : decode cJ7_fill_bad5a 10 = .ok (.iload 5, 2) := by decide +kernel
theorem dJ7_fill_bad5a_12 : decode cJ7_fill_bad5a 12 = .ok (.iload_n 2, 1) := by decide +kernel
theorem dJ7_fill_bad5a_13 : decode cJ7_fill_bad5a 13 = .ok (.if_icmp .ge 14, 3) := by decide +kernel
theorem dJ7_fill_bad5a_16 : decode cJ7_fill_bad5a 16 = .ok (.aload_n 0, 1) := by decide +kernel
theorem dJ7_fill_bad5a_17 : decode cJ7_fill_bad5a 17 = .ok (.iload 5, 2) := by decide +kernel
theorem dJ7_fill_bad5a_19 : decode cJ7_fill_bad5a 19 = .ok (.lload_n 3, 1) := by decide +kernel
theorem dJ7_fill_bad5a_20 : decode cJ7_fill_bad5a 20 = .ok (.lastore, 1) := by decide +kernel
theorem dJ7_fill_bad5a_21 : decode cJ7_fill_bad5a 21 = .ok (.iinc 5 1, 3) := by decide +kernel
theorem dJ7_fill_bad5a_24 : decode cJ7_fill_bad5a 24 = .ok (.goto (-14), 3) := by decide +kernel
theorem dJ7_fill_bad5a_27 : decode cJ7_fill_bad5a 27 = .ok (.return_, 1) := by decide +kernel
theorem dJ7_fill_53178_0 : decode cJ7_fill_53178 0 = .ok (.iconst 0, 1) := by decide +kernel
theorem dJ7_fill_53178_1 : decode cJ7_fill_53178 1 = .ok (.istore_n 2, 1) := by decide +kernel
theorem dJ7_fill_53178_2 : decode cJ7_fill_53178 2 = .ok (.aload_n 0, 1) := by decide +kernel
theorem dJ7_fill_53178_3 : decode cJ7_fill_53178 3 = .ok (.arraylength, 1) := by decide +kernel
theorem dJ7_fill_53178_4 : decode cJ7_fill_53178 4 = .ok (.istore_n 3, 1) := by decide +kernel
theorem dJ7_fill_53178_5 : decode cJ7_fill_53178 5 = .ok (.iload_n 2, 1) := by decide +kernel
theorem dJ7_fill_53178_6 : decode cJ7_fill_53178 6 = .ok (.iload_n 3, 1) := by decide +kernel
theorem dJ7_fill_53178_7 : decode cJ7_fill_53178 7 = .ok (.if_icmp .ge 13, 3) := by decide +kernel
theorem dJ7_fill_53178_10 : decode cJ7_fill_53178 10 = .ok (.aload_n 0, 1) := by decide +kernel
theorem dJ7_fill_53178_11 : decode cJ7_fill_53178 11 = .ok (.iload_n 2, 1) := by decide +kernel
theorem dJ7_fill_53178_12 : decode cJ7_fill_53178 12 = .ok (.iload_n 1, 1) := by decide +kernel
theorem dJ7_fill_53178_13 : decode cJ7_fill_53178 13 = .ok (.iastore, 1) := by decide +kernel
theorem dJ7_fill_53178_14 : decode cJ7_fill_53178 14 = .ok (.iinc 2 1, 3) := by decide +kernel
theorem dJ7_fill_53178_17 : decode cJ7_fill_53178 17 = .ok (.goto (-12), 3) := by decide +kernel
theorem dJ7_fill_53178_20 : decode cJ7_fill_53178 20 = .ok (.return_, 1) := by decide +kernel
theorem dJ9_min_7cf53_0 : decode cJ9_min_7cf53 0 = .ok (.iload_n 0, 1) := by decide +kernel
theorem dJ9_min_7cf53_1 : decode cJ9_min_7cf53 1 = .ok (.iload_n 1, 1) := by decide +kernel
theorem dJ9_min_7cf53_2 : decode cJ9_min_7cf53 2 = .ok (.if_icmp .gt 7, 3) := by decide +kernel
theorem dJ9_min_7cf53_5 : decode cJ9_min_7cf53 5 = .ok (.iload_n 0, 1) := by decide +kernel
theorem dJ9_min_7cf53_6 : decode cJ9_min_7cf53 6 = .ok (.goto 4, 3) := by decide +kernel
theorem dJ9_min_7cf53_9 : decode cJ9_min_7cf53 9 = .ok (.iload_n 1, 1) := by decide +kernel
theorem dJ9_min_7cf53_10 : decode cJ9_min_7cf53 10 = .ok (.ireturn, 1) := by decide +kernel
